/** Promises 1 to 6 and 22 to 29: the page. */
final class PagePromises {
  private PagePromises() {
  }

  static void run() {
    Check.test("promise 1: a new object", PagePromises::newObject);
    Check.test("promise 2: setWidth", PagePromises::setWidth);
    Check.test("promise 2: setWidth keeps the style, the stop and the buffer", PagePromises::setWidthKeeps);
    Check.test("promise 2: setWidth refuses", PagePromises::setWidthRefuses);
    Check.test("promise 3: addLine", PagePromises::addLine);
    Check.test("promise 3: addLine refuses", PagePromises::addLineRefuses);
    Check.test("promise 4: setLine", PagePromises::setLine);
    Check.test("promise 4: setLine refuses", PagePromises::setLineRefuses);
    Check.test("promise 5: dropLast", PagePromises::dropLast);
    Check.test("promise 6: setStyle", PagePromises::setStyle);
    Check.test("promise 22: width", PagePromises::width);
    Check.test("promise 23: lines", PagePromises::lines);
    Check.test("promise 24: style", PagePromises::style);
    Check.test("promise 25: pixelsOf", PagePromises::pixelsOf);
    Check.test("promise 26: isBlack", PagePromises::isBlack);
    Check.test("promise 27: runsOf", PagePromises::runsOf);
    Check.test("promise 28: longestRun", PagePromises::longestRun);
    Check.test("promise 29: blackPixels", PagePromises::blackPixels);
  }

  private static void newObject() {
    RunFaxes x = new RunFaxes();
    Check.same("width", x.width(), 24);
    Check.same("lines", x.lines(), 0);
    Check.same("style", x.style(), 3);
    Check.same("streamLength", x.streamLength(), 0);
    Check.same("received", x.received(), 0);
    Check.same("errors", x.errors(), 0);
    Check.same("savedStates", x.savedStates(), 0);
    Check.same("hasStopped", x.hasStopped(), false);
    Check.same("firstError", x.firstError(), 0);
    Check.same("clearBuffer", x.clearBuffer(), 0);
    Check.refuses(x, IllegalStateException.class, x::undo);
    Check.refuses(x, IllegalStateException.class, x::restore);
  }

  private static void setWidth() {
    RunFaxes x = Make.page(8, "..####..", "########");
    Make.feed(x, "f00088 f0a");
    x.receive();
    Check.same("received ahead", x.received(), 1);
    Check.same("errors ahead", x.errors(), 1);
    Check.same("setWidth(32)", x.setWidth(32), 8);
    Check.same("width", x.width(), 32);
    Check.same("lines", x.lines(), 0);
    Check.same("streamLength", x.streamLength(), 0);
    Check.same("received", x.received(), 0);
    Check.same("errors", x.errors(), 0);
    x.undo();
    Check.same("width behind undo", x.width(), 8);
    Check.same("rows behind undo", Make.rows(x), "..####../########");
    Check.same("stream behind undo", Make.stream(x), "f00088f0a");
    Check.same("received behind undo", x.received(), 1);
    Check.same("errors behind undo", Make.errors(x), "6:2");
    Check.same("setWidth(8)", x.setWidth(8), 8);
    Check.same("lines behind the same width", x.lines(), 0);
    Check.same("streamLength behind the same width", x.streamLength(), 0);
  }

  private static void setWidthKeeps() {
    RunFaxes x = new RunFaxes();
    x.setStyle(1);
    Make.play(x, "s;-");
    Make.type(x, "s");
    x.setWidth(9);
    Check.same("style", x.style(), 1);
    Check.same("stoppedPart", x.stoppedPart(), 1);
    Check.same("the buffer", x.clearBuffer(), 1);
  }

  private static void setWidthRefuses() {
    RunFaxes x = Make.page(8, "..####..");
    for (int wrong : new int[] {7, 33, 0, -8, Integer.MIN_VALUE, Integer.MAX_VALUE}) {
      Check.refuses(x, IllegalArgumentException.class, () -> x.setWidth(wrong));
    }
  }

  private static void addLine() {
    RunFaxes x = new RunFaxes();
    Check.same("addLine", x.addLine(5), 0);
    Check.same("addLine", x.addLine((1L << 24) - 1), 1);
    Check.same("addLine", x.addLine(0), 2);
    Check.same("rows", Make.rows(x),
        "#.#...................../########################/........................");
    Check.same("savedStates", x.savedStates(), 3);
    x.undo();
    Check.same("lines behind undo", x.lines(), 2);
    RunFaxes wide = Make.wide(32);
    Check.same("addLine of 32 black pixels", wide.addLine(4294967295L), 0);
    Check.same("its pixels", wide.pixelsOf(0), 4294967295L);
  }

  private static void addLineRefuses() {
    RunFaxes x = Make.wide(8);
    for (long wrong : new long[] {256, -1, Long.MIN_VALUE, 1L << 40, 1L << 63 | 1}) {
      Check.refuses(x, IllegalArgumentException.class, () -> x.addLine(wrong));
    }
    RunFaxes wide = Make.wide(32);
    Check.refuses(wide, IllegalArgumentException.class, () -> wide.addLine(1L << 32));
    for (int i = 0; i < 10; i++) {
      Check.same("addLine", x.addLine(i), i);
    }
    Check.refuses(x, IllegalStateException.class, () -> x.addLine(1));
    Check.refuses(x, IllegalArgumentException.class, () -> x.addLine(256));
  }

  private static void setLine() {
    RunFaxes x = Make.page(8, "#.......", "########", "........");
    Check.same("setLine", x.setLine(1, Make.pixels("..##....")), 255L);
    Check.same("rows", Make.rows(x), "#......./..##..../........");
    Check.same("setLine", x.setLine(2, 255), 0L);
    Check.same("setLine to the same", x.setLine(0, 1), 1L);
    Check.same("savedStates", x.savedStates(), 5);
    x.undo();
    x.undo();
    Check.same("rows behind undo", Make.rows(x), "#......./..##..../........");
    Check.same("setLine", x.setLine(0, 3), 1L);
    Check.same("rows", Make.rows(x), "##....../..##..../........");
    Check.same("the stream stays", x.streamLength(), 0);
  }

  private static void setLineRefuses() {
    RunFaxes x = Make.page(8, "#.......");
    for (int wrong : new int[] {1, -1, 10, Integer.MIN_VALUE, Integer.MAX_VALUE}) {
      Check.refuses(x, IndexOutOfBoundsException.class, () -> x.setLine(wrong, 0));
      Check.refuses(x, IndexOutOfBoundsException.class, () -> x.setLine(wrong, 256));
    }
    Check.refuses(x, IllegalArgumentException.class, () -> x.setLine(0, 256));
    Check.refuses(x, IllegalArgumentException.class, () -> x.setLine(0, -1));
  }

  private static void dropLast() {
    RunFaxes x = Make.page(8, "#.......", "########");
    Check.same("dropLast", x.dropLast(), 1);
    Check.same("rows", Make.rows(x), "#.......");
    Check.same("dropLast", x.dropLast(), 0);
    Check.refuses(x, IllegalStateException.class, x::dropLast);
    x.undo();
    x.undo();
    Check.same("rows behind undo", Make.rows(x), "#......./########");
  }

  private static void setStyle() {
    RunFaxes x = Make.page(8, "..####..");
    x.send();
    Check.same("setStyle(0)", x.setStyle(0), 3);
    Check.same("setStyle(2)", x.setStyle(2), 0);
    Check.same("setStyle(2)", x.setStyle(2), 2);
    Check.same("style", x.style(), 2);
    Check.same("the stream stays", Make.stream(x), "f0013c1");
    Check.same("savedStates", x.savedStates(), 5);
    x.undo();
    x.undo();
    Check.same("style behind undo", x.style(), 0);
    for (int wrong : new int[] {4, -1, Integer.MIN_VALUE, Integer.MAX_VALUE}) {
      Check.refuses(x, IllegalArgumentException.class, () -> x.setStyle(wrong));
    }
  }

  private static void width() {
    for (int width = 8; width <= 32; width++) {
      Check.same("width", Make.wide(width).width(), width);
    }
  }

  private static void lines() {
    RunFaxes x = new RunFaxes();
    for (int i = 0; i < 10; i++) {
      Check.same("lines", x.lines(), i);
      x.addLine(0);
    }
    Check.same("lines", x.lines(), 10);
    x.dropLast();
    Check.same("lines", x.lines(), 9);
  }

  private static void style() {
    RunFaxes x = new RunFaxes();
    for (int style = 0; style <= 3; style++) {
      x.setStyle(style);
      Check.same("style", x.style(), style);
    }
  }

  private static void pixelsOf() {
    RunFaxes x = Make.page(8, "#.......", ".......#");
    Check.same("pixelsOf(0)", x.pixelsOf(0), 1L);
    Check.same("pixelsOf(1)", x.pixelsOf(1), 128L);
    for (int wrong : new int[] {2, -1, 9, 10, Integer.MIN_VALUE, Integer.MAX_VALUE}) {
      Check.refuses(x, IndexOutOfBoundsException.class, () -> x.pixelsOf(wrong));
    }
    x.dropLast();
    Check.refuses(x, IndexOutOfBoundsException.class, () -> x.pixelsOf(1));
  }

  private static void isBlack() {
    RunFaxes x = Make.wide(32);
    x.addLine(1L | 1L << 31);
    Check.same("isBlack(0, 0)", x.isBlack(0, 0), true);
    Check.same("isBlack(0, 1)", x.isBlack(0, 1), false);
    Check.same("isBlack(0, 30)", x.isBlack(0, 30), false);
    Check.same("isBlack(0, 31)", x.isBlack(0, 31), true);
    for (int wrong : new int[] {-1, 32, 64, Integer.MIN_VALUE, Integer.MAX_VALUE}) {
      Check.refuses(x, IndexOutOfBoundsException.class, () -> x.isBlack(0, wrong));
      Check.refuses(x, IndexOutOfBoundsException.class, () -> x.isBlack(wrong, 0));
    }
    Check.refuses(x, IndexOutOfBoundsException.class, () -> x.isBlack(1, 0));
    RunFaxes slim = Make.page(8, "########");
    Check.refuses(slim, IndexOutOfBoundsException.class, () -> slim.isBlack(0, 8));
  }

  private static void runsOf() {
    RunFaxes x = Make.page(8, "........", "########", "..####..", "#.#.#.#.", ".......#", "#......#");
    int[] due = {1, 2, 3, 9, 2, 4};
    for (int line = 0; line < due.length; line++) {
      Check.same("runsOf(" + line + ")", x.runsOf(line), due[line]);
    }
    Check.refuses(x, IndexOutOfBoundsException.class, () -> x.runsOf(6));
    Check.refuses(x, IndexOutOfBoundsException.class, () -> x.runsOf(-1));
    RunFaxes wide = Make.wide(32);
    wide.addLine(1431655765L);
    Check.same("runsOf of 32 pixels in turns", wide.runsOf(0), 33);
  }

  private static void longestRun() {
    RunFaxes x = Make.page(8, "........", "########", "..###...", "#.#.#.#.", ".......#", "####.###");
    int[] due = {8, 8, 3, 1, 7, 4};
    for (int line = 0; line < due.length; line++) {
      Check.same("longestRun(" + line + ")", x.longestRun(line), due[line]);
    }
    Check.refuses(x, IndexOutOfBoundsException.class, () -> x.longestRun(6));
    Check.refuses(x, IndexOutOfBoundsException.class, () -> x.longestRun(-1));
    RunFaxes wide = Make.wide(32);
    wide.addLine(4294967295L);
    Check.same("longestRun of 32 black pixels", wide.longestRun(0), 32);
  }

  private static void blackPixels() {
    RunFaxes x = Make.wide(32);
    Check.same("blackPixels without lines", x.blackPixels(), 0);
    x.addLine(4294967295L);
    x.addLine(0);
    x.addLine(5);
    Check.same("blackPixels", x.blackPixels(), 34);
    x.dropLast();
    Check.same("blackPixels behind dropLast", x.blackPixels(), 32);
  }
}
