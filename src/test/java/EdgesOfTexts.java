/** Promises 12 to 17: characters 33 to 126, 0 and 60 of them, the least and the longest parts, stops. */
final class EdgesOfTexts {
  private static final String DOTS_31 = ".".repeat(31);

  private EdgesOfTexts() {
  }

  static void run() {
    appending();
    clearing();
    firstErrors();
    nextCharacters();
    numbers();
    playing();
    playingLines();
    playingOthers();
    stopping();
    latestStops();
  }

  private static RunFaxes typed(String text) {
    RunFaxes x = new RunFaxes();
    Make.type(x, text);
    return x;
  }

  private static void appending() {
    for (int code : new int[] {33, 34, 125, 126}) {
      Check.test("promise 12: the code " + code, () -> {
        RunFaxes x = new RunFaxes();
        Check.same("append", x.append(code), 1);
        Check.same("digest", x.digest(), Digests.of(x, String.valueOf((char) code)));
      });
    }
    Check.test("promise 12: from the first to the sixtieth character", () -> {
      RunFaxes x = new RunFaxes();
      for (int length = 1; length <= 60; length++) {
        Check.same("append", x.append(length % 2 == 0 ? 126 : 33), length);
      }
      Check.same("digest", x.digest(), Digests.of(x, "!~".repeat(30)));
    });
    Check.test("promise 12: the sixty-first is refused until the buffer is cleared", () -> {
      RunFaxes x = Make.fullBuffer();
      Check.refuses(x, IllegalStateException.class, () -> x.append('s'));
      Check.same("clearBuffer", x.clearBuffer(), 60);
      Check.same("append", x.append('s'), 1);
    });
    Check.test("promise 12: the sixty-first is refused until the text is played", () -> {
      RunFaxes x = Make.fullBuffer();
      Check.same("play", x.play(), 30);
      Check.same("append", x.append('s'), 1);
      Check.same("play", x.play(), 1);
    });
    Check.test("promise 12: not undoable", () -> {
      RunFaxes x = Make.fullPage();
      x.append('s');
      Check.same("undo", x.undo(), 4);
      Check.same("lines", x.lines(), 9);
      Check.same("the buffer stays", x.clearBuffer(), 1);
    });
  }

  private static void clearing() {
    Check.test("promise 13: of none, of one, of sixty", () -> {
      Check.same("of none", new RunFaxes().clearBuffer(), 0);
      Check.same("of one", typed("s").clearBuffer(), 1);
      RunFaxes x = Make.fullBuffer();
      Check.same("of sixty", x.clearBuffer(), 60);
      Check.same("of none then", x.clearBuffer(), 0);
      Check.same("firstError", x.firstError(), 0);
    });
    Check.test("promise 13: nothing else is changed", () -> {
      RunFaxes x = Make.laden();
      RunFaxes twin = Make.laden();
      x.clearBuffer();
      Make.type(x, "s;");
      Check.same("all", Whole.of(x), Whole.of(twin));
    });
  }

  private static void first(String text, int due) {
    RunFaxes x = typed(text);
    long before = x.digest();
    Check.same("firstError of " + text, x.firstError(), due);
    Check.same("the digest", x.digest(), before);
  }

  private static void fine(String text) {
    first(text, text.length());
  }

  private static void firstErrors() {
    Check.test("promise 14: an empty buffer", () -> fine(""));
    Check.test("promise 14: sixty characters, complete", () -> fine("+#" + ";s".repeat(29)));
    Check.test("promise 14: sixty characters, that a longer text begins with", () -> {
      fine("s;".repeat(30));
      fine("s;".repeat(29) + "x4");
      fine("s;".repeat(28) + "x49=");
      fine("+" + DOTS_31 + "#;+" + ".".repeat(25));
    });
    Check.test("promise 14: the first character", () -> {
      first("y" + ";s".repeat(29), 0);
      first(";s", 0);
    });
    Check.test("promise 14: the last one of sixty", () -> {
      first("s;".repeat(29) + "sy", 59);
      first("s;".repeat(29) + "+;", 59);
      first("s;".repeat(29) + "x=", 59);
    });
    Check.test("promise 14: the first one of several, not the last one", () -> {
      first("s;y;y;y", 2);
      first("yyy", 0);
      first("s;+.;+;s;y", 6);
    });
    Check.test("promise 14: 1 and 32 pixels are allowed, 0 and 33 are not", () -> {
      fine("+.");
      fine("+#;s");
      fine("+" + DOTS_31 + "#");
      fine("+" + DOTS_31 + ".;s");
      first("+;", 1);
      first("+" + DOTS_31 + "..", 33);
      first("+" + DOTS_31 + "##", 33);
      first("+" + DOTS_31 + "#x", 33);
    });
    Check.test("promise 14: a line of 32 pixels also on a page of the width 8", () -> {
      RunFaxes x = Make.fullPage();
      Make.type(x, "+" + DOTS_31 + "#");
      Check.same("firstError", x.firstError(), 33);
    });
  }

  /** Of all characters just these may stand next. */
  private static void next(String ahead, String allowed) {
    Check.test("promise 14: what may stand behind \"" + ahead + "\"", () -> {
      for (char c = 33; c <= 126; c++) {
        first(ahead + c, ahead.length() + (allowed.indexOf(c) >= 0 ? 1 : 0));
      }
    });
  }

  private static void nextCharacters() {
    next("", "+-srx");
    next("s;", "+-srx");
    next("-", ";");
    next("s", ";");
    next("r", ";");
    next("+", ".#");
    next("+.", ".#;");
    next("+#", ".#;");
    next("+" + DOTS_31, ".#;");
    next("+" + DOTS_31 + ".", ";");
    next("+" + DOTS_31 + "#", ";");
    next("s;+" + DOTS_31 + "#", ";");
    next("x", "0123456789");
    next("x0", "=");
    next("x1", "0123456789=");
    next("x4", "0123456789=");
    next("x5", "0123456789=");
    next("x9", "0123456789=");
    next("x10", "0123456789=");
    next("x49", "0123456789=");
    next("x50", "=");
    next("x99", "=");
    next("x100", "=");
    next("x499", "=");
    next("x0=", "0123456789");
    next("x499=", "0123456789");
    next("x0=0", ";");
    next("x0=1", "012345;");
    next("x0=2", ";");
    next("x0=9", ";");
    next("x0=10", ";");
    next("x0=15", ";");
    next("x1=2;", "+-srx");
    next("x1=2;x", "0123456789");
    next("x1=2;+", ".#");
  }

  private static void numbers() {
    Check.test("promise 14: each place from 0 to 499, and none above", () -> {
      for (int place = 0; place <= 499; place++) {
        fine("x" + place + "=15");
      }
      for (int place = 500; place <= 999; place++) {
        first("x" + place + "=15", 3);
      }
      first("x1000=1", 4);
      first("x4990=1", 4);
      first("x4294967296=1", 4);
    });
    Check.test("promise 14: each number from 0 to 15, and none above", () -> {
      for (int number = 0; number <= 15; number++) {
        fine("x7=" + number + ";s");
      }
      for (int number = 16; number <= 99; number++) {
        first("x7=" + number, 4);
      }
      first("x7=100", 5);
      first("x7=151", 5);
    });
    Check.test("promise 14: no leading zeros, one zero is a number", () -> {
      fine("x0=0");
      first("x00=0", 2);
      first("x01=0", 2);
      first("x0499=0", 2);
      first("x0=00", 4);
      first("x0=01", 4);
      first("x0=015", 4);
      fine("x10=0;x100=10");
    });
  }

  private static void playing() {
    Check.test("promise 15: one part of one character", () -> {
      RunFaxes x = typed("s");
      Check.same("play", x.play(), 1);
      Check.same("hasStopped", x.hasStopped(), false);
      Check.same("the buffer is cleared", x.clearBuffer(), 0);
      Check.same("savedStates", x.savedStates(), 1);
    });
    Check.test("promise 15: thirty parts of sixty characters", () -> {
      RunFaxes x = Make.fullBuffer();
      Check.same("play", x.play(), 30);
      Check.same("hasStopped", x.hasStopped(), false);
      Check.same("stream", Make.stream(x), "f001809");
      Check.same("the buffer is cleared", x.clearBuffer(), 0);
    });
    Check.test("promise 15: undoable as one call, of thirty parts", () -> {
      RunFaxes x = Make.wide(8);
      Make.play(x, "+.;-" + ";+.;-".repeat(11));
      Check.same("savedStates", x.savedStates(), 2);
      Check.same("undo", x.undo(), 1);
      Check.same("undo", x.undo(), 0);
      Check.same("width", x.width(), 24);
    });
    Check.test("promise 15: undoable, also if nothing is done", () -> {
      RunFaxes x = Make.wide(8);
      Check.same("play", Make.play(x, "-;s;r"), 0);
      Check.same("savedStates", x.savedStates(), 2);
      Check.same("hasStopped", x.hasStopped(), true);
      x.undo();
      Check.same("hasStopped behind undo", x.hasStopped(), false);
    });
    Check.test("promise 15: undoable, with five states saved", () -> {
      RunFaxes x = Make.fullPage();
      Make.play(x, "-;-");
      Check.same("savedStates", x.savedStates(), 5);
      Check.same("undo", x.undo(), 4);
      Check.same("lines", x.lines(), 10);
    });
    Check.test("promise 15: undo brings the buffer not back", () -> {
      RunFaxes x = Make.fullBuffer();
      x.play();
      x.undo();
      Check.same("clearBuffer", x.clearBuffer(), 0);
    });
  }

  private static void plays(RunFaxes x, String text, int done, boolean stopped) {
    Check.same("play of " + text, Make.play(x, text), done);
    Check.same("hasStopped of " + text, x.hasStopped(), stopped);
    if (stopped) {
      Check.same("stoppedPart of " + text, x.stoppedPart(), done);
    }
    Check.same("the buffer", x.clearBuffer(), 0);
  }

  private static void playingLines() {
    for (int width = 8; width <= 32; width++) {
      int wide = width;
      Check.test("promise 15: lines on a page of the width " + width, () -> {
        RunFaxes x = Make.wide(wide);
        plays(x, "+" + "#".repeat(wide), 1, false);
        Check.same("as many as the width", x.pixelsOf(0), (1L << wide) - 1);
        plays(x, "+" + ".".repeat(wide - 1) + "#", 1, false);
        Check.same("the last pixel", x.pixelsOf(1), 1L << (wide - 1));
        plays(x, "+#", 1, false);
        Check.same("the missing pixels are white", x.pixelsOf(2), 1L);
        plays(x, "+.", 1, false);
        Check.same("one white pixel", x.pixelsOf(3), 0L);
        if (wide < 32) {
          plays(x, "s;+" + "#".repeat(wide + 1), 1, true);
          plays(x, "+" + ".".repeat(wide + 1) + ";s", 0, true);
          plays(x, "+" + ".".repeat(32), 0, true);
        }
        Check.same("lines", x.lines(), 4);
      });
    }
    Check.test("promise 15: the tenth line is added, the eleventh is not", () -> {
      RunFaxes x = Make.fullPage();
      x.dropLast();
      plays(x, "+#;+.;s", 1, true);
      Check.same("lines", x.lines(), 10);
      Check.same("pixelsOf(9)", x.pixelsOf(9), 1L);
      Check.same("streamLength", x.streamLength(), 0);
      plays(x, "+#", 0, true);
      plays(x, "-;+##", 2, false);
      Check.same("pixelsOf(9)", x.pixelsOf(9), 3L);
    });
    Check.test("promise 15: ten lines in one text", () -> {
      RunFaxes x = Make.wide(8);
      plays(x, "+#;+.#;+..#;+#;+#;+#;+#;+#;+#;+.#", 10, false);
      Check.same("lines", x.lines(), 10);
      Check.same("pixelsOf(2)", x.pixelsOf(2), 4L);
      Check.same("pixelsOf(9)", x.pixelsOf(9), 2L);
    });
    Check.test("promise 15: the last line is dropped, of none there is none", () -> {
      RunFaxes x = Make.wide(8);
      plays(x, "+#;+.;-;-;-;s", 4, true);
      Check.same("lines", x.lines(), 0);
      plays(x, "-", 0, true);
    });
  }

  private static void playingOthers() {
    Check.test("promise 15: sending and reading nothing", () -> {
      RunFaxes x = new RunFaxes();
      plays(x, "r;s;r", 3, false);
      Check.same("streamLength", x.streamLength(), 0);
      Check.same("received", x.received(), 0);
    });
    Check.test("promise 15: the first and the last place are replaced, the next one is not", () -> {
      RunFaxes x = Make.fed(8, "7777");
      plays(x, "x0=0;x3=15;x4=1;x1=1", 2, true);
      Check.same("stream", Make.stream(x), "077f");
    });
    Check.test("promise 15: no place of an empty stream is replaced", () -> {
      RunFaxes x = new RunFaxes();
      plays(x, "x0=0", 0, true);
      Check.same("streamLength", x.streamLength(), 0);
    });
    Check.test("promise 15: the place 499", () -> {
      RunFaxes x = Make.fullStream("12");
      plays(x, "x499=15;x498=10", 2, false);
      Check.same("numberAt(499)", x.numberAt(499), 15);
      Check.same("numberAt(498)", x.numberAt(498), 10);
      x.lose(0);
      plays(x, "x499=3", 0, true);
      plays(x, "x498=3", 1, false);
      Check.same("numberAt(498)", x.numberAt(498), 3);
    });
    Check.test("promise 15: a stream that is replaced by a shorter one", () -> {
      RunFaxes x = Make.fed(8, "777777777");
      plays(x, "x8=1;+.;s;x5=9;x6=1", 4, true);
      Check.same("stream", Make.stream(x), "f00089");
    });
    Check.test("promise 15: a reading in a text", () -> {
      RunFaxes x = Make.wide(8);
      plays(x, "+#;+#;s;x0=0;r", 5, false);
      Check.same("lines", Make.receivedLines(x), "");
      Check.same("errors", Make.errors(x), "7:7");
      plays(x, "s;r", 2, false);
      Check.same("lines", Make.receivedLines(x), "01");
      Check.same("errors", Make.errors(x), "");
    });
  }

  private static void stopping() {
    Check.test("promises 16, 17: at the first part of one", () -> plays(new RunFaxes(), "-", 0, true));
    Check.test("promises 16, 17: at the first part of many", () -> {
      RunFaxes x = new RunFaxes();
      plays(x, "-;+.;s", 0, true);
      Check.same("nothing is done", x.lines(), 0);
    });
    Check.test("promises 16, 17: at the thirtieth part, the last one", () -> {
      RunFaxes x = new RunFaxes();
      plays(x, "s;".repeat(29) + "-", 29, true);
    });
    Check.test("promises 16, 17: not at the thirtieth part", () -> {
      RunFaxes x = new RunFaxes();
      plays(x, "+#;" + "s;".repeat(28) + "-", 30, false);
    });
    Check.test("promises 15, 16: what comes behind the stop is not done", () -> {
      RunFaxes x = Make.wide(8);
      plays(x, "+#;x0=1;+##;s;r", 1, true);
      Check.same("lines", x.lines(), 1);
      Check.same("streamLength", x.streamLength(), 0);
    });
  }

  private static void latestStops() {
    Check.test("promise 16: false without a call of play", () -> {
      Check.same("hasStopped", new RunFaxes().hasStopped(), false);
      Check.same("hasStopped", Make.longestSent().hasStopped(), false);
    });
    Check.test("promise 16: a call of play that throws does not count", () -> {
      RunFaxes x = Make.wide(8);
      Check.refuses(x, IllegalArgumentException.class, x::play);
      Check.same("hasStopped", x.hasStopped(), false);
      plays(x, "s;-", 1, true);
      Check.refuses(x, IllegalArgumentException.class, x::play);
      Check.same("stoppedPart", x.stoppedPart(), 1);
      plays(x, "s", 1, false);
      Make.type(x, "-;");
      Check.refuses(x, IllegalArgumentException.class, x::play);
      Check.same("hasStopped", x.hasStopped(), false);
    });
    Check.test("promise 17: the latest call, not the one before", () -> {
      RunFaxes x = Make.wide(8);
      plays(x, "s;s;-", 2, true);
      plays(x, "-", 0, true);
      plays(x, "s;-", 1, true);
      plays(x, "s;s", 2, false);
      Check.refuses(x, IllegalStateException.class, x::stoppedPart);
    });
    Check.test("promise 16: the stop of the state that undo and restore bring back", () -> {
      RunFaxes x = Make.wide(8);
      x.keep();
      plays(x, "s;s;-", 2, true);
      x.restore();
      Check.same("hasStopped behind restore", x.hasStopped(), false);
      x.undo();
      Check.same("stoppedPart behind undo", x.stoppedPart(), 2);
      x.keep();
      plays(x, "s", 1, false);
      x.restore();
      Check.same("stoppedPart behind restore", x.stoppedPart(), 2);
    });
    Check.test("promise 16: other calls leave it", () -> {
      RunFaxes x = Make.wide(8);
      plays(x, "s;-", 1, true);
      x.setWidth(9);
      x.addLine(1);
      x.setLine(0, 2);
      x.setStyle(0);
      x.send();
      x.replace(0, 15);
      x.lose(0);
      x.gain(0, 15);
      x.receive();
      x.dropLast();
      Make.type(x, "s");
      x.clearBuffer();
      Check.same("stoppedPart", x.stoppedPart(), 1);
    });
  }
}
