/** Promises 1 to 6 and 22 to 29: the least and the most that is allowed, and empty and full pages. */
final class EdgesOfPages {
  private EdgesOfPages() {
  }

  static void run() {
    newObject();
    widths();
    addedLines();
    replacedLines();
    droppedLines();
    styles();
    looksAtLines();
    looksAtPixels();
  }

  private static void newObject() {
    Check.test("promise 1: an empty page", () -> Check.same("lines", new RunFaxes().lines(), 0));
    Check.test("promise 1: the width 24: 24 black pixels are a line", () -> {
      RunFaxes x = new RunFaxes();
      Check.same("addLine", x.addLine(0xFFFFFFL), 0);
      Check.same("pixelsOf", x.pixelsOf(0), 0xFFFFFFL);
    });
    Check.test("promise 1: the style 3: the shortest codes", () -> {
      RunFaxes x = new RunFaxes();
      x.addLine(0x55L);
      Check.same("modeOf", x.modeOf(0), 1);
      Check.same("style", x.style(), 3);
    });
    Check.test("promise 1: an empty stream", () -> Check.same("markers", new RunFaxes().markers(), 0));
    Check.test("promise 1: nothing received", () -> {
      RunFaxes x = new RunFaxes();
      for (int line = 0; line < 10; line++) {
        Check.same("isReceived", x.isReceived(line), false);
      }
    });
    Check.test("promise 1: objects have nothing in common", () -> {
      RunFaxes other = new RunFaxes();
      long before = other.digest();
      RunFaxes x = Make.laden();
      x.undo();
      Check.same("digest of another object", other.digest(), before);
      Check.same("digest of a new object", new RunFaxes().digest(), before);
    });
  }

  private static void widths() {
    Check.test("promise 2: 8 is allowed", () -> {
      RunFaxes x = new RunFaxes();
      Check.same("setWidth(8)", x.setWidth(8), 24);
      Check.same("width", x.width(), 8);
    });
    Check.test("promise 2: 32 is allowed", () -> {
      RunFaxes x = new RunFaxes();
      Check.same("setWidth(32)", x.setWidth(32), 24);
      Check.same("width", x.width(), 32);
    });
    Check.test("promise 2: the previous width, from 8 to 32 and back", () -> {
      RunFaxes x = Make.wide(8);
      Check.same("setWidth(32)", x.setWidth(32), 8);
      Check.same("setWidth(8)", x.setWidth(8), 32);
      Check.same("setWidth(8) again", x.setWidth(8), 8);
    });
    Check.test("promise 2: the same width empties a page of ten lines", () -> {
      RunFaxes x = Make.fullPage();
      Check.same("setWidth", x.setWidth(8), 8);
      Check.same("lines", x.lines(), 0);
      Check.same("addLine", x.addLine(255), 0);
      Check.same("undo", x.undo(), 4);
      Check.same("undo", x.undo(), 3);
      Check.same("lines behind undo", x.lines(), 10);
    });
    Check.test("promise 2: a stream of 500 numbers is empty then", () -> {
      RunFaxes x = Make.fullStream("f0");
      x.setWidth(31);
      Check.same("streamLength", x.streamLength(), 0);
      Check.same("markers", x.markers(), 0);
      Check.same("gain", x.gain(0, 15), 1);
      x.undo();
      x.undo();
      Check.same("streamLength behind undo", x.streamLength(), 500);
      Check.same("numberAt(498)", x.numberAt(498), 15);
    });
    Check.test("promise 2: of ten lines none is received then", () -> {
      RunFaxes x = Make.longestSent();
      x.receive();
      x.setWidth(32);
      Check.same("received", x.received(), 0);
      Check.same("lines", Make.receivedLines(x), "");
      x.undo();
      Check.same("lines behind undo", Make.receivedLines(x), "0123456789");
    });
    Check.test("promise 2: of 20 errors there is none then", () -> {
      RunFaxes x = Make.fullErrors();
      x.setWidth(8);
      Check.same("errors", x.errors(), 0);
      x.undo();
      Check.same("errors behind undo", x.errors(), 20);
    });
  }

  private static void addedLines() {
    for (int width = 8; width <= 32; width++) {
      int wide = width;
      Check.test("promise 3: " + width + " pixels, all white, all black, the last one black", () -> {
        RunFaxes x = Make.wide(wide);
        long[] allowed = {0L, (1L << wide) - 1, 1L << (wide - 1), 1L};
        for (int line = 0; line < allowed.length; line++) {
          Check.same("addLine", x.addLine(allowed[line]), line);
          Check.same("pixelsOf", x.pixelsOf(line), allowed[line]);
        }
      });
    }
    Check.test("promise 3: the first line is 0, the tenth is 9", () -> {
      RunFaxes x = Make.wide(8);
      for (int line = 0; line < 10; line++) {
        Check.same("addLine", x.addLine(255), line);
      }
      Check.same("lines", x.lines(), 10);
    });
    Check.test("promise 3: a tenth line again, behind dropLast", () -> {
      RunFaxes x = Make.fullPage();
      x.dropLast();
      Check.same("addLine", x.addLine(77), 9);
      Check.same("pixelsOf(9)", x.pixelsOf(9), 77L);
      Check.same("pixelsOf(8)", x.pixelsOf(8), 0L);
    });
    Check.test("promise 3: a tenth line again, behind undo", () -> {
      RunFaxes x = Make.fullPage();
      x.undo();
      Check.same("addLine", x.addLine(77), 9);
    });
  }

  private static void replacedLines() {
    Check.test("promise 4: the line 0 of one", () -> {
      RunFaxes x = Make.page(8, "########");
      Check.same("setLine(0, 0)", x.setLine(0, 0), 255L);
      Check.same("setLine(0, 255)", x.setLine(0, 255), 0L);
      Check.same("pixelsOf(0)", x.pixelsOf(0), 255L);
    });
    Check.test("promise 4: the first and the last line of ten", () -> {
      RunFaxes x = Make.fullPage();
      Check.same("setLine(0)", x.setLine(0, 254), 1L);
      Check.same("setLine(9)", x.setLine(9, 127), 0L);
      Check.same("lines", x.lines(), 10);
      long[] due = {254, 2, 4, 8, 16, 32, 64, 128, 0, 127};
      for (int line = 0; line < 10; line++) {
        Check.same("pixelsOf(" + line + ")", x.pixelsOf(line), due[line]);
      }
    });
    Check.test("promise 4: the last line by another number", () -> {
      RunFaxes x = Make.fullPage();
      x.setLine(7, 0);
      x.setLine(8, 255);
      Check.same("pixelsOf(7)", x.pixelsOf(7), 0L);
      Check.same("pixelsOf(8)", x.pixelsOf(8), 255L);
    });
    Check.test("promise 4: 32 black pixels, there and back", () -> {
      RunFaxes x = Make.page(32, "#");
      Check.same("setLine to 32 black ones", x.setLine(0, 4294967295L), 1L);
      Check.same("setLine to the pixel 31", x.setLine(0, 2147483648L), 4294967295L);
      Check.same("setLine to white", x.setLine(0, 0), 2147483648L);
    });
    Check.test("promise 4: undoable, also if it changes nothing", () -> {
      RunFaxes x = Make.page(8, "#");
      x.setLine(0, 1);
      Check.same("savedStates", x.savedStates(), 3);
      x.undo();
      Check.same("lines", x.lines(), 1);
    });
  }

  private static void droppedLines() {
    Check.test("promise 5: from ten lines down to none", () -> {
      RunFaxes x = Make.fullPage();
      for (int left = 9; left >= 0; left--) {
        Check.same("dropLast", x.dropLast(), left);
        Check.same("lines", x.lines(), left);
      }
    });
    Check.test("promise 5: the last one, not the first one", () -> {
      RunFaxes x = Make.fullPage();
      x.dropLast();
      x.dropLast();
      Check.same("pixelsOf(0)", x.pixelsOf(0), 1L);
      Check.same("pixelsOf(7)", x.pixelsOf(7), 128L);
    });
    Check.test("promise 5: a line added behind it is another one", () -> {
      RunFaxes x = Make.page(8, "########");
      x.dropLast();
      Check.same("addLine", x.addLine(0), 0);
      Check.same("pixelsOf(0)", x.pixelsOf(0), 0L);
    });
  }

  private static void styles() {
    for (int style = 0; style <= 3; style++) {
      int next = style;
      Check.test("promise 6: the style " + style, () -> {
        RunFaxes x = new RunFaxes();
        Check.same("setStyle", x.setStyle(next), 3);
        Check.same("style", x.style(), next);
        Check.same("setStyle again", x.setStyle(next), next);
        Check.same("undoable, also if it changes nothing", x.savedStates(), 2);
      });
    }
    Check.test("promise 6: a stream of 500 numbers stays", () -> {
      RunFaxes x = Make.fullStream("f0");
      x.setStyle(1);
      Check.same("streamLength", x.streamLength(), 500);
      Check.same("numberAt(2)", x.numberAt(2), 0);
      Check.same("numberAt(498)", x.numberAt(498), 15);
    });
    Check.test("promise 6: the page, what is received and the errors stay", () -> {
      RunFaxes x = Make.laden();
      x.setStyle(0);
      Check.same("lines", x.lines(), 2);
      Check.same("width", x.width(), 10);
      Check.same("received", x.received(), 2);
      Check.same("errors", Make.errors(x), "16:1");
      Check.same("stoppedPart", x.stoppedPart(), 1);
    });
  }

  private static void looksAtLines() {
    Check.test("promise 23: 0 and 10 lines", () -> {
      Check.same("lines", Make.wide(8).lines(), 0);
      Check.same("lines", Make.fullPage().lines(), 10);
    });
    Check.test("promise 25: the first and the last line of ten", () -> {
      Check.same("pixelsOf(0)", Make.fullPage().pixelsOf(0), 1L);
      Check.same("pixelsOf(7)", Make.fullPage().pixelsOf(7), 128L);
      Check.same("pixelsOf(9)", Make.longestSent().pixelsOf(9), 1431655765L);
    });
    Check.test("promise 27: one run, and one more than pixels", () -> {
      for (int width = 8; width <= 32; width++) {
        RunFaxes x = Make.wide(width);
        long all = (1L << width) - 1;
        x.addLine(0);
        x.addLine(all);
        x.addLine(0x5555555555L & all);
        x.addLine(0xAAAAAAAAAAL & all);
        Check.same("runs of white", x.runsOf(0), 1);
        Check.same("runs of black, the first one being 0", x.runsOf(1), 2);
        Check.same("runs in turns, black ahead", x.runsOf(2), width + 1);
        Check.same("runs in turns, white ahead", x.runsOf(3), width);
      }
    });
    Check.test("promise 27: the first and the last pixel", () -> {
      RunFaxes x = Make.page(8, "#", ".......#", "#......#", ".######.");
      Check.same("the first one black", x.runsOf(0), 3);
      Check.same("the last one black", x.runsOf(1), 2);
      Check.same("both black", x.runsOf(2), 4);
      Check.same("all between them black", x.runsOf(3), 3);
    });
    Check.test("promise 28: a run of one pixel, and of all", () -> {
      for (int width = 8; width <= 32; width++) {
        RunFaxes x = Make.wide(width);
        long all = (1L << width) - 1;
        x.addLine(0);
        x.addLine(all);
        x.addLine(0x5555555555L & all);
        x.addLine(all >> 1);
        x.addLine(all & ~1L);
        int[] due = {width, width, 1, width - 1, width - 1};
        for (int line = 0; line < due.length; line++) {
          Check.same("longestRun(" + line + ")", x.longestRun(line), due[line]);
        }
      }
    });
    Check.test("promise 28: the longest run as the first, the middle and the last one", () -> {
      RunFaxes x = Make.page(8, "...##.#.", "#...#..#", "#.##...", "#.#.####", "####.#.#");
      int[] due = {3, 3, 4, 4, 4};
      for (int line = 0; line < due.length; line++) {
        Check.same("longestRun(" + line + ")", x.longestRun(line), due[line]);
      }
    });
  }

  private static void looksAtPixels() {
    Check.test("promise 26: the first and the last pixel of the first and the last line", () -> {
      for (int width = 8; width <= 32; width++) {
        RunFaxes x = Make.wide(width);
        for (int line = 0; line < 10; line++) {
          x.addLine(line % 2 == 0 ? 1L : 1L << (width - 1));
        }
        Check.same("isBlack(0, 0)", x.isBlack(0, 0), true);
        Check.same("isBlack(0, last)", x.isBlack(0, width - 1), false);
        Check.same("isBlack(9, 0)", x.isBlack(9, 0), false);
        Check.same("isBlack(9, last)", x.isBlack(9, width - 1), true);
        Check.same("isBlack(9, last but one)", x.isBlack(9, width - 2), false);
      }
    });
    Check.test("promise 29: no line, white lines, and ten black lines", () -> {
      RunFaxes x = Make.wide(32);
      Check.same("without lines", x.blackPixels(), 0);
      for (int line = 0; line < 10; line++) {
        x.addLine(0);
      }
      Check.same("white lines", x.blackPixels(), 0);
      for (int line = 0; line < 10; line++) {
        x.setLine(line, 4294967295L);
        Check.same("black lines", x.blackPixels(), 32 * (line + 1));
      }
      x.setWidth(32);
      Check.same("an empty page again", x.blackPixels(), 0);
    });
  }
}
