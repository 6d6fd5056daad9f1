/** Promises 12 to 17: texts. */
final class TextPromises {
  private static final String DOTS_32 = "................................";

  private TextPromises() {
  }

  static void run() {
    Check.test("promise 12: append", TextPromises::append);
    Check.test("promise 13: clearBuffer", TextPromises::clearBuffer);
    Check.test("promise 14: firstError", TextPromises::firstError);
    Check.test("promise 14: firstError at numbers", TextPromises::firstErrorAtNumbers);
    Check.test("promise 14: every text of three characters", TextPromises::firstErrorShort);
    Check.test("promise 15: play does its parts", TextPromises::play);
    Check.test("promise 15: play is one call for undo", TextPromises::playUndone);
    Check.test("promise 15: play refuses", TextPromises::playRefuses);
    Check.test("promises 15 to 17: play stops", TextPromises::playStops);
    Check.test("promises 16, 17: the latest stop", TextPromises::latestStop);
  }

  private static void append() {
    RunFaxes x = new RunFaxes();
    Check.same("append(33)", x.append(33), 1);
    Check.same("append(126)", x.append(126), 2);
    for (int wrong : new int[] {32, 127, 0, -33, Integer.MIN_VALUE, Integer.MAX_VALUE}) {
      Check.refuses(x, IllegalArgumentException.class, () -> x.append(wrong));
    }
    for (int i = 3; i <= 60; i++) {
      Check.same("append", x.append('s'), i);
    }
    Check.refuses(x, IllegalStateException.class, () -> x.append('s'));
    Check.refuses(x, IllegalArgumentException.class, () -> x.append(32));
    Check.same("savedStates", x.savedStates(), 0);
    Check.same("clearBuffer", x.clearBuffer(), 60);
  }

  private static void clearBuffer() {
    RunFaxes x = new RunFaxes();
    Check.same("clearBuffer", x.clearBuffer(), 0);
    Make.type(x, "s;s");
    Check.same("clearBuffer", x.clearBuffer(), 3);
    Check.same("clearBuffer", x.clearBuffer(), 0);
    Check.same("append", x.append('-'), 1);
    Check.same("savedStates", x.savedStates(), 0);
    x.clearBuffer();
    Check.refuses(x, IllegalArgumentException.class, x::play);
  }

  private static void first(String text, int due) {
    RunFaxes x = new RunFaxes();
    Make.type(x, text);
    long before = x.digest();
    Check.same("firstError of " + text, x.firstError(), due);
    Check.same("the digest stays", x.digest(), before);
  }

  private static void fine(String text) {
    first(text, text.length());
  }

  private static void firstError() {
    for (String text : new String[] {"", "+", "+.", "+#", "+.#.", "-", "s", "r", "s;", "s;r", "+..;-",
        "-;-;-", "+" + DOTS_32, "+" + DOTS_32 + ";+" + DOTS_32.substring(7), "s;+", "+.;x", "r;x1"}) {
      fine(text);
    }
    first(";", 0);
    first("y", 0);
    first("S", 0);
    first(".", 0);
    first("#", 0);
    first("=", 0);
    first("0", 0);
    first("+;", 1);
    first("+a", 1);
    first("++", 1);
    first("+.+", 2);
    first("+.0", 2);
    first("+" + DOTS_32 + ".", 33);
    first("+" + DOTS_32 + "#", 33);
    first("s;+" + DOTS_32 + ".;s", 35);
    first("--", 1);
    first("s.", 1);
    first("ss", 1);
    first("rs", 1);
    first("s;;", 2);
    first("s;y;y", 2);
    first("s;r;.", 4);
    first("s~", 1);
    first("!", 0);
  }

  private static void firstErrorAtNumbers() {
    for (String text : new String[] {"x", "x0", "x0=", "x0=0", "x0=15", "x0=9;", "x9=1", "x10=10", "x499=15",
        "x49=1;x499=0", "x400", "x100=14", "x5=2;s"}) {
      fine(text);
    }
    first("x;", 1);
    first("x=", 1);
    first("x-", 1);
    first("x00", 2);
    first("x01", 2);
    first("x500", 3);
    first("x4990", 4);
    first("x999", 3);
    first("x0;", 2);
    first("x5:", 2);
    first("x5==", 3);
    first("x5=;", 3);
    first("x5=00", 4);
    first("x5=01", 4);
    first("x5=16", 4);
    first("x5=20", 4);
    first("x5=150", 5);
    first("x5=1=", 4);
    first("x5=a", 3);
    first("x5=.", 3);
    first("x5=1.", 4);
    first("x1=2;x01", 7);
  }

  /** Every text of three characters, by a list of all that a page as a text can begin with. */
  private static void firstErrorShort() {
    String signs = "+-srx.#;=0159!~";
    for (char a : signs.toCharArray()) {
      for (char b : signs.toCharArray()) {
        for (char c : signs.toCharArray()) {
          first("" + a + b + c, firstOf(a, b, c));
        }
      }
    }
  }

  private static int firstOf(char a, char b, char c) {
    if ("+-srx".indexOf(a) < 0) {
      return 0;
    }
    boolean second = a == '+' ? ".#".indexOf(b) >= 0 : a == 'x' ? "0159".indexOf(b) >= 0 : b == ';';
    if (!second) {
      return 1;
    }
    boolean third = b == ';' ? "+-srx".indexOf(c) >= 0
        : a == '+' ? ".#;".indexOf(c) >= 0
        : b == '0' ? c == '=' : "=0159".indexOf(c) >= 0;
    return third ? 3 : 2;
  }

  private static void play() {
    RunFaxes x = Make.wide(8);
    Check.same("play", Make.play(x, "+..####"), 1);
    Check.same("rows", Make.rows(x), "..####..");
    Check.same("the buffer is cleared", x.clearBuffer(), 0);
    Check.same("play", Make.play(x, "+..####;s;x5=3;r;+########;-;+#"), 7);
    Check.same("rows", Make.rows(x), "..####../..####../#.......");
    Check.same("stream", Make.stream(x), "f00133" + "1" + "f0128b");
    Check.same("errors", Make.errors(x), "0:8 7:7");
    Check.same("play", Make.play(x, "s;r"), 2);
    Check.same("right", x.right(), 3);
    Check.same("play", Make.play(x, "x0=0;x1=10"), 2);
    Check.same("stream", Make.stream(x).substring(0, 3), "0a0");
    RunFaxes wide = Make.wide(32);
    Check.same("play", Make.play(wide, "+" + DOTS_32.substring(1) + "#"), 1);
    Check.same("pixelsOf", wide.pixelsOf(0), 1L << 31);
  }

  private static void playUndone() {
    RunFaxes x = Make.page(8, "..####..");
    Make.play(x, "+#;s;r;-");
    Check.same("savedStates", x.savedStates(), 3);
    Make.type(x, "r");
    x.undo();
    Check.same("rows behind undo", Make.rows(x), "..####..");
    Check.same("stream behind undo", x.streamLength(), 0);
    Check.same("received behind undo", x.received(), 0);
    Check.same("the buffer stays", x.clearBuffer(), 1);
    RunFaxes empty = Make.wide(8);
    Check.same("play", Make.play(empty, "-;s"), 0);
    Check.same("undoable, if nothing is done", empty.savedStates(), 2);
  }

  private static void playRefuses() {
    for (String text : new String[] {"", "+", "s;", "x", "x1", "x1=", "y", "+.;", ";", "s;;s", "s;+", "x1=16",
        "+" + DOTS_32 + ".", "+#;y"}) {
      RunFaxes x = Make.wide(32);
      Make.type(x, text);
      Check.refuses(x, IllegalArgumentException.class, x::play);
      Check.same("the buffer stays", x.clearBuffer(), text.length());
      Check.same("savedStates", x.savedStates(), 1);
    }
  }

  private static void stops(RunFaxes x, String text, int part) {
    Check.same("play of " + text, Make.play(x, text), part);
    Check.same("hasStopped", x.hasStopped(), true);
    Check.same("stoppedPart", x.stoppedPart(), part);
    Check.same("the buffer is cleared", x.clearBuffer(), 0);
  }

  private static void playStops() {
    RunFaxes x = Make.page(8, "..####..", "#.......");
    stops(x, "-;-;-;s", 2);
    Check.same("lines", x.lines(), 0);
    stops(x, "+#;x0=1;s", 1);
    Check.same("rows", Make.rows(x), "#.......");
    stops(x, "s;x7=1;-", 1);
    Check.same("lines", x.lines(), 1);
    stops(x, "s;x6=1;x7=1", 2);
    stops(x, "+.........;s", 0);
    stops(x, "+########;+........#", 1);
    for (int i = 2; i < 9; i++) {
      x.addLine(0);
    }
    stops(x, "+.;+.;r", 1);
    Check.same("lines", x.lines(), 10);
    stops(x, "x499=0", 0);
    RunFaxes wide = Make.wide(31);
    stops(wide, "+" + DOTS_32, 0);
    Check.same("lines", wide.lines(), 0);
  }

  private static void latestStop() {
    RunFaxes x = Make.wide(8);
    Check.same("hasStopped without play", x.hasStopped(), false);
    Check.refuses(x, IllegalStateException.class, x::stoppedPart);
    Make.play(x, "s;r;-");
    Check.same("stoppedPart", x.stoppedPart(), 2);
    Make.type(x, "y");
    Check.refuses(x, IllegalArgumentException.class, x::play);
    Check.same("stoppedPart behind play that throws", x.stoppedPart(), 2);
    x.clearBuffer();
    Make.play(x, "s");
    Check.same("hasStopped", x.hasStopped(), false);
    Check.refuses(x, IllegalStateException.class, x::stoppedPart);
    x.undo();
    Check.same("stoppedPart behind undo", x.stoppedPart(), 2);
    x.undo();
    Check.same("hasStopped behind undo", x.hasStopped(), false);
    Make.play(x, "-");
    Check.same("stoppedPart", x.stoppedPart(), 0);
    x.addLine(0);
    Check.same("stoppedPart stays", x.stoppedPart(), 0);
  }
}
