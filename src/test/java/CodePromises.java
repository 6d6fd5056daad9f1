/** Promises 7, 30 to 34 and 48: codes. */
final class CodePromises {
  private CodePromises() {
  }

  static void run() {
    Check.test("promise 7: send by the shortest codes", CodePromises::sendShortest);
    Check.test("promise 7: send by each style", CodePromises::sendByStyle);
    Check.test("promise 7: codes of long runs", CodePromises::sendLongRuns);
    Check.test("promise 7: raw codes", CodePromises::sendRaw);
    Check.test("promise 7: what send changes", CodePromises::sendChanges);
    Check.test("promise 7: the longest page", CodePromises::sendLongest);
    Check.test("promises 30, 31, 33: lengths and checks", CodePromises::lengths);
    Check.test("promises 30, 31: lengths at long runs", CodePromises::lengthsOfLongRuns);
    Check.test("promises 30, 31: what is written is as long as is told", CodePromises::lengthsAreThoseSent);
    Check.test("promises 30, 31, 33: wrong lines and modes", CodePromises::lengthsRefuse);
    Check.test("promise 32: modeOf", CodePromises::modeOf);
    Check.test("promise 33: checkOf, alone", CodePromises::checkAlone);
    Check.test("promise 34: wouldSend", CodePromises::wouldSend);
    Check.test("promise 48: codedShare", CodePromises::codedShare);
  }

  private static String sent(int style, int width, String... rows) {
    RunFaxes x = Make.page(width, rows);
    x.setStyle(style);
    int length = x.send();
    Check.same("send()", length, x.streamLength());
    return Make.stream(x);
  }

  private static void sendShortest() {
    Check.same("no line", sent(3, 8), "");
    Check.same("raw, then the same line", sent(3, 8, "..####..", "..####.."), "f0013c1" + "f0128b");
    Check.same("white: of several the lowest", sent(3, 8, "........"), "f00088");
    Check.same("black", sent(3, 8, "########"), "f000088");
    Check.same("white below black", sent(3, 8, "########", "........"), "f000088" + "f01089");
    Check.same("raw twice", sent(3, 16, "#.#.#.#.#.#.#.#.", "#.#.#.#.#.#.#.##"),
        "f001aaaab" + "f011aaabd");
  }

  private static void sendByStyle() {
    String[] rows = {"..####..", "..####.#"};
    Check.same("style 0", sent(0, 8, rows), "f0002428" + "f01024119");
    Check.same("style 1", sent(1, 8, rows), "f0013c1" + "f0113d3");
    Check.same("style 2", sent(2, 8, rows), "f002242a" + "f01271b");
  }

  private static void sendLongRuns() {
    Check.same("13", sent(0, 13, "............."), "f000dd");
    Check.same("14", sent(0, 14, ".............."), "f000e0ed");
    Check.same("15", sent(0, 15, "..............."), "f000e0f1e");
    Check.same("16", sent(0, 16, "................"), "f000e100");
    Check.same("31 and 1", sent(0, 32, "...............................#"), "f000e1f111");
    Check.same("0 and 32", sent(0, 32, "################################"), "f0000e201");
  }

  private static void sendRaw() {
    Check.same("two escapes", sent(1, 8, "########"), "f001f1f11");
    Check.same("pixels from the width on are white", sent(1, 9, "...#....#"), "f001108a");
    Check.same("each pixel of four", sent(1, 16, "#....#....#....#"), "f00184211");
    Check.same("width 10", sent(1, 10, "........##"), "f00100cd");
  }

  private static void sendChanges() {
    RunFaxes x = Make.page(8, "..####..");
    Make.feed(x, "f00088");
    x.receive();
    Check.same("send()", x.send(), 7);
    Check.same("stream", Make.stream(x), "f0013c1");
    Check.same("what is received stays", x.received(), 1);
    x.setLine(0, 0);
    x.addLine(255);
    x.dropLast();
    Check.same("the stream stays", Make.stream(x), "f0013c1");
    x.undo();
    x.undo();
    x.undo();
    x.undo();
    Check.same("stream behind undo", Make.stream(x), "f00088");
    RunFaxes empty = Make.fed(8, "f0");
    Check.same("send() without lines", empty.send(), 0);
    Check.same("savedStates", empty.savedStates(), 4);
  }

  private static void sendLongest() {
    RunFaxes x = Make.wide(32);
    x.setStyle(0);
    for (int i = 0; i < 10; i++) {
      x.addLine(1431655765L);
    }
    Check.same("send()", x.send(), 380);
    Check.same("receive()", x.receive(), 10);
    Check.same("right()", x.right(), 10);
  }

  private static void all(RunFaxes x, int line, int mode, int length, int check) {
    String what = "(" + line + ", " + mode + ")";
    Check.same("codeLength" + what, x.codeLength(line, mode), length);
    Check.same("codeLengthByCounting" + what, x.codeLengthByCounting(line, mode), length);
    Check.same("checkOf" + what, x.checkOf(line, mode), check);
  }

  private static void lengths() {
    RunFaxes x = Make.page(8, "..####..", "..####..", "########", "#.#.#.#.");
    all(x, 0, 0, 8, 8);
    all(x, 0, 1, 7, 1);
    all(x, 0, 2, 8, 10);
    all(x, 1, 0, 8, 9);
    all(x, 1, 1, 7, 2);
    all(x, 1, 2, 6, 11);
    all(x, 2, 0, 7, 10);
    all(x, 2, 1, 9, 3);
    all(x, 2, 2, 9, 12);
    all(x, 3, 0, 14, 11);
    all(x, 3, 1, 7, 9);
    all(x, 3, 2, 13, 13);
    x.setStyle(1);
    all(x, 3, 0, 14, 11);
  }

  private static void lengthsOfLongRuns() {
    int[] due = {6, 8, 9, 8, 8};
    for (int i = 0; i < due.length; i++) {
      RunFaxes x = Make.wide(13 + i);
      x.addLine(0);
      Check.same("codeLength at " + (13 + i), x.codeLength(0, 0), due[i]);
      Check.same("codeLengthByCounting at " + (13 + i), x.codeLengthByCounting(0, 0), due[i]);
    }
    RunFaxes x = Make.wide(32);
    x.addLine(2147483647L);
    all(x, 0, 0, 11, 1);
    all(x, 0, 1, 20, 0);
    x.addLine(32767L << 15);
    all(x, 1, 0, 14, 1);
  }

  private static void lengthsAreThoseSent() {
    RunFaxes x = Make.wide(29);
    for (int i = 0; i < 10; i++) {
      x.addLine((0x35A9C0FL * (i * i + 3 * i + 1) ^ i * 77L << i) & (1L << 29) - 1);
    }
    for (int mode = 0; mode < 3; mode++) {
      x.setStyle(mode);
      int total = 0;
      for (int line = 0; line < 10; line++) {
        Check.same("codeLengthByCounting", x.codeLengthByCounting(line, mode), x.codeLength(line, mode));
        total += x.codeLength(line, mode);
      }
      Check.same("wouldSend", x.wouldSend(), total);
      Check.same("send", x.send(), total);
      x.receive();
      Check.same("right", x.right(), 10);
    }
  }

  private static void lengthsRefuse() {
    RunFaxes x = Make.page(8, "..####..");
    for (int wrong : new int[] {-1, 1, 10, Integer.MIN_VALUE, Integer.MAX_VALUE}) {
      for (int mode : new int[] {0, 3}) {
        Check.refuses(x, IndexOutOfBoundsException.class, () -> x.codeLength(wrong, mode));
        Check.refuses(x, IndexOutOfBoundsException.class, () -> x.codeLengthByCounting(wrong, mode));
        Check.refuses(x, IndexOutOfBoundsException.class, () -> x.checkOf(wrong, mode));
      }
      Check.refuses(x, IndexOutOfBoundsException.class, () -> x.modeOf(wrong));
    }
    for (int wrong : new int[] {-1, 3, Integer.MIN_VALUE, Integer.MAX_VALUE}) {
      Check.refuses(x, IllegalArgumentException.class, () -> x.codeLength(0, wrong));
      Check.refuses(x, IllegalArgumentException.class, () -> x.codeLengthByCounting(0, wrong));
      Check.refuses(x, IllegalArgumentException.class, () -> x.checkOf(0, wrong));
    }
  }

  private static void modeOf() {
    RunFaxes x = Make.page(8, "..####..", "..####..", "########", "........");
    int[] due = {1, 2, 0, 0};
    for (int line = 0; line < 4; line++) {
      Check.same("modeOf(" + line + ")", x.modeOf(line), due[line]);
    }
    for (int style = 0; style < 3; style++) {
      x.setStyle(style);
      for (int line = 0; line < 4; line++) {
        Check.same("modeOf(" + line + ") in the style " + style, x.modeOf(line), style);
      }
    }
    // 7 numbers by raw and by differences.
    RunFaxes even = Make.page(8, "#...#...", "#...#..#");
    Check.same("codeLength(1, 1)", even.codeLength(1, 1), 7);
    Check.same("codeLength(1, 2)", even.codeLength(1, 2), 7);
    Check.same("modeOf, of several the lowest", even.modeOf(1), 1);
  }

  private static void checkAlone() {
    RunFaxes x = Make.page(8, "..####..", "########");
    Check.same("checkOf(1, 1)", x.checkOf(1, 1), 2);
    Check.same("checkOf(0, 0)", x.checkOf(0, 0), 8);
    Check.same("checkOf(0, 1)", x.checkOf(0, 1), 1);
    Check.same("checkOf(1, 2)", x.checkOf(1, 2), 11);
  }

  private static void wouldSend() {
    RunFaxes x = Make.page(8, "..####..", "..####..");
    Check.same("wouldSend", x.wouldSend(), 13);
    Check.same("streamLength", x.streamLength(), 0);
    x.setStyle(0);
    Check.same("wouldSend in the style 0", x.wouldSend(), 16);
    x.setStyle(1);
    Check.same("wouldSend in the style 1", x.wouldSend(), 14);
    x.setStyle(2);
    Check.same("wouldSend in the style 2", x.wouldSend(), 14);
    Check.same("wouldSend without lines", new RunFaxes().wouldSend(), 0);
  }

  private static void codedShare() {
    RunFaxes x = Make.wide(8);
    Check.same("codedShare without lines", Double.doubleToRawLongBits(x.codedShare()), 0L);
    x.addLine(Make.pixels("..####.."));
    Check.same("codedShare", x.codedShare(), 3.5);
    x.addLine(Make.pixels("..####.."));
    Check.same("codedShare", x.codedShare(), 3.25);
    x.setWidth(11);
    x.addLine(0);
    x.addLine(0);
    x.addLine(0);
    Check.same("codedShare", x.codedShare(), 72.0 / 33.0);
    x.setWidth(32);
    x.addLine(0);
    Check.same("codedShare of a white line", x.codedShare(), 1.0);
  }
}
