/** Promises 7, 30 to 34 and 48: runs at 13 to 32, escapes, checks at 14 and 15, styles that tie. */
final class EdgesOfCodes {
  private static final long BLACK_32 = 4294967295L;

  private EdgesOfCodes() {
  }

  static void run() {
    oneRun();
    fours();
    checks();
    numbersOfLines();
    styles();
    lengths();
    sending();
    shares();
  }

  /** The stream of a page, whose length is also told ahead. */
  private static String sent(int style, int width, long... lines) {
    RunFaxes x = Make.wide(width);
    x.setStyle(style);
    for (long pixels : lines) {
      x.addLine(pixels);
    }
    int due = x.wouldSend();
    Check.same("send", x.send(), due);
    return Make.stream(x);
  }

  private static void oneRun() {
    run(8, "f00088", "f000088", "f0028a");
    run(12, "f000cc", "f0000cc", "f002ce");
    run(13, "f000dd", "f0000dd", "f002d0");
    run(14, "f000e0ed", "f0000e0ed", "f002e0e0");
    run(15, "f000e0f1e", "f0000e0f1e", "f002e0f11");
    run(16, "f000e100", "f0000e100", "f002e102");
    run(17, "f000e111", "f0000e111", "f002e113");
    run(29, "f000e1dd", "f0000e1dd", "f002e1d0");
    run(30, "f000e1ee", "f0000e1ee", "f002e1e1");
    run(31, "f000e1f10", "f0000e1f10", "f002e1f12");
    run(32, "f000e201", "f0000e201", "f002e203");
  }

  private static void run(int length, String white, String black, String differences) {
    Check.test("codes: a run of " + length + " pixels, white, black, of differences", () -> {
      long all = (1L << length) - 1;
      Check.same("white", sent(0, length, 0), white);
      Check.same("black", sent(0, length, all), black);
      Check.same("white by differences from white", sent(2, length, 0), differences);
      RunFaxes x = Make.wide(length);
      x.addLine(0);
      x.addLine(all);
      int numbers = white.length();
      for (int line = 0; line < 2; line++) {
        for (int mode = 0; mode <= 2; mode += 2) {
          Check.same("codeLength", x.codeLength(line, mode), numbers + line);
          Check.same("codeLengthByCounting", x.codeLengthByCounting(line, mode), numbers + line);
        }
      }
    });
  }

  private static void fours() {
    four(8, "f001f1f11");
    four(9, "f001f1f189");
    four(10, "f001f1f1cd");
    four(11, "f001f1f1e0");
    four(12, "f001f1f1f11");
    four(31, "f001f1f1f1f1f1f1f1e0");
    four(32, "f001f1f1f1f1f1f1f1f11");
    Check.test("codes: of four pixels the first one is 8, the last one is 1", () -> {
      String[] due = {"f001809", "f001405", "f001203", "f001102", "f001089", "f001045", "f001023", "f001012"};
      for (int pixel = 0; pixel < 8; pixel++) {
        Check.same("the pixel " + pixel, sent(1, 8, 1L << pixel), due[pixel]);
      }
    });
    Check.test("codes: 14 of four pixels takes no 1, 15 does", () -> {
      Check.same("14", sent(1, 8, 0b0111), "f001e00");
      Check.same("15", sent(1, 8, 0b1111), "f001f101");
      Check.same("7", sent(1, 8, 0b1110), "f001708");
    });
  }

  private static void four(int width, String black) {
    Check.test("codes: " + width + " black pixels, raw", () -> {
      long all = (1L << width) - 1;
      Check.same("stream", sent(1, width, all), black);
      RunFaxes x = Make.wide(width);
      x.addLine(all);
      Check.same("codeLength", x.codeLength(0, 1), black.length());
      Check.same("codeLengthByCounting", x.codeLengthByCounting(0, 1), black.length());
    });
  }

  private static void check(String what, int due, int mode, int width, long... lines) {
    Check.test("promise 33: " + what, () -> {
      RunFaxes x = Make.wide(width);
      for (long pixels : lines) {
        x.addLine(pixels);
      }
      Check.same("checkOf", x.checkOf(lines.length - 1, mode), due);
      x.setStyle(mode);
      x.send();
      Check.same("the last number", x.numberAt(x.streamLength() - 1), due);
    });
  }

  private static void checks() {
    check("together 1: 1", 1, 1, 8, 0);
    check("together 13: 13", 13, 0, 13, 0);
    check("together 14: 14", 14, 0, 13, 0, 0);
    check("together 15: 0", 0, 0, 13, 0, 0, 0);
    check("together 16: 1", 1, 0, 13, 0, 0, 0, 0);
    check("together 29: 14", 14, 0, 15, 0);
    check("together 30: 0", 0, 0, 31, 0);
    check("together 31: 1", 1, 0, 31, 0, 0);
    // 9, 1 and eight 15.
    check("together 130, the most: 10", 10, 1, 32, 0, 0, 0, 0, 0, 0, 0, 0, 0, BLACK_32);
    check("the 1 behind a 15 does not count", 1, 1, 8, 255);
    check("the differences count, not the pixels", 11, 2, 8, 255, 255);
  }

  private static void numbersOfLines() {
    Check.test("codes: the numbers of the lines are 0 to 9", () -> {
      String due = "f00088f01089f0208af0308bf0408cf0508df0608ef07080f08081f09082";
      Check.same("stream", sent(0, 8, new long[10]), due);
      Check.same("stream of the shortest codes", sent(3, 8, new long[10]), due);
    });
    Check.test("codes: differences above the line 0, and of the line 9", () -> {
      long[] lines = {BLACK_32, 0, BLACK_32, BLACK_32, 0, 0, 0, 0, 0, BLACK_32};
      String due = "f0020e203" + "f0120e204" + "f0220e205" + "f032e206" + "f0420e207" + "f052e208"
          + "f062e209" + "f072e20a" + "f082e20b" + "f0920e20c";
      Check.same("stream", sent(2, 32, lines), due);
    });
    Check.test("codes: a line is told by the line above of now", () -> {
      RunFaxes x = Make.page(8, "########", "########");
      Check.same("codeLength(1, 2)", x.codeLength(1, 2), 6);
      x.setLine(0, 0);
      Check.same("codeLength(1, 2) behind setLine", x.codeLength(1, 2), 7);
      Check.same("checkOf(1, 2) behind setLine", x.checkOf(1, 2), 11);
    });
  }

  private static void mode(String what, int due, int width, String... rows) {
    Check.test("promise 32: " + what, () -> {
      RunFaxes x = Make.page(width, rows);
      int last = rows.length - 1;
      Check.same("modeOf", x.modeOf(last), due);
      x.send();
      int before = 0;
      for (int line = 0; line < last; line++) {
        before += x.codeLength(line, x.modeOf(line));
      }
      Check.same("the mode in the stream", x.numberAt(before + 3), due);
    });
  }

  private static void styles() {
    mode("6, 7 and 6 numbers", 0, 8, "........");
    mode("7, 7 and 7 numbers", 0, 8, ".....###");
    mode("7, 7 and 8 numbers", 0, 8, "#.......", ".....###");
    mode("8, 7 and 8 numbers", 1, 8, "..####..");
    mode("8, 7 and 7 numbers", 1, 8, "#...#...", "#...#..#");
    mode("8, 7 and 6 numbers", 2, 8, "..####..", "..####..");
    mode("7, 9 and 6 numbers", 2, 8, "########", "########");
    mode("6, 7 and 7 numbers", 0, 8, "########", "........");
    Check.test("promise 32: in the styles 0 to 2 the mode also of a line of a longer code", () -> {
      for (int style = 0; style <= 2; style++) {
        RunFaxes x = Make.page(8, "#.#.#.#.", "........", "########");
        x.setStyle(style);
        for (int line = 0; line < 3; line++) {
          Check.same("modeOf", x.modeOf(line), style);
        }
      }
    });
  }

  private static void lengths() {
    for (int width = 8; width <= 32; width++) {
      int wide = width;
      Check.test("promises 30, 31: the shortest and the longest codes of " + width + " pixels", () -> {
        long all = (1L << wide) - 1;
        RunFaxes x = Make.wide(wide);
        x.addLine(0x5555555555L & all);
        x.addLine(0x5555555555L & all);
        x.addLine(0);
        lengthsOf(x, 0, wide + 6, 5 + (wide + 3) / 4, wide + 6);
        int same = wide < 14 ? 6 : wide % 16 == 15 ? 9 : 8;
        lengthsOf(x, 1, wide + 6, 5 + (wide + 3) / 4, same);
        lengthsOf(x, 2, same, 5 + (wide + 3) / 4, wide + 6);
      });
    }
    Check.test("promises 30, 31: the line 9", () -> {
      RunFaxes x = Make.longestSent();
      lengthsOf(x, 9, 38, 13, 8);
      x.setLine(8, 0);
      lengthsOf(x, 9, 38, 13, 38);
    });
    Check.test("promises 30, 31: a 15 that is left, in a run that is not the last one", () -> {
      RunFaxes x = Make.wide(32);
      x.addLine((1L << 15) - 1);
      x.addLine(((1L << 15) - 1) << 15);
      x.addLine(((1L << 30) - 1) << 1);
      lengthsOf(x, 0, 5 + 1 + 4 + 3, 5 + 8 + 3, 13);
      lengthsOf(x, 1, 5 + 4 + 4 + 1, 5 + 8 + 3, 5 + 1 + 3 + 1);
      lengthsOf(x, 2, 5 + 1 + 3 + 1, 5 + 8 + 6, 5 + 1 + 3 + 4 + 1 + 1);
    });
  }

  private static void lengthsOf(RunFaxes x, int line, int... due) {
    for (int mode = 0; mode <= 2; mode++) {
      String what = "(" + line + ", " + mode + ")";
      Check.same("codeLength" + what, x.codeLength(line, mode), due[mode]);
      Check.same("codeLengthByCounting" + what, x.codeLengthByCounting(line, mode), due[mode]);
    }
  }

  private static void sending() {
    Check.test("promise 7: a page of no line", () -> {
      RunFaxes x = new RunFaxes();
      Check.same("wouldSend", x.wouldSend(), 0);
      Check.same("send", x.send(), 0);
      Check.same("savedStates", x.savedStates(), 1);
    });
    Check.test("promise 7: a page of no line in place of 500 numbers", () -> {
      RunFaxes x = Make.fullStream("f0");
      for (int line = 9; line >= 0; line--) {
        x.dropLast();
      }
      Check.same("streamLength", x.streamLength(), 500);
      Check.same("wouldSend", x.wouldSend(), 0);
      Check.same("send", x.send(), 0);
      Check.same("streamLength", x.streamLength(), 0);
      Check.same("markers", x.markers(), 0);
      x.undo();
      Check.same("streamLength behind undo", x.streamLength(), 500);
    });
    Check.test("promise 7: a page in place of 500 numbers, not behind them", () -> {
      RunFaxes x = Make.fullStream("f0");
      Check.same("send", x.send(), 380);
      Check.same("streamLength", x.streamLength(), 380);
      Check.same("markers", x.markers(), 10);
      Check.same("receive", x.receive(), 10);
      Check.same("errors", x.errors(), 0);
    });
    Check.test("promises 7, 34: the longest page, in each style", () -> {
      int[] due = {380, 130, 38 + 9 * 8, 13 + 9 * 8};
      for (int style = 0; style <= 3; style++) {
        RunFaxes x = Make.longestSent();
        x.setStyle(style);
        Check.same("wouldSend", x.wouldSend(), due[style]);
        Check.same("streamLength", x.streamLength(), 380);
        Check.same("send", x.send(), due[style]);
        x.receive();
        Check.same("right", x.right(), 10);
      }
    });
    Check.test("promise 7: the stream does not change when the page does", () -> {
      RunFaxes x = Make.longestSent();
      x.setLine(0, 0);
      x.dropLast();
      x.setStyle(3);
      Check.same("streamLength", x.streamLength(), 380);
      Check.same("numberAt(4)", x.numberAt(4), 0);
      Check.same("numberAt(5)", x.numberAt(5), 1);
    });
  }

  private static void share(String what, double due, int style, int width, long... lines) {
    Check.test("promise 48: " + what, () -> {
      RunFaxes x = Make.wide(width);
      x.setStyle(style);
      for (long pixels : lines) {
        x.addLine(pixels);
      }
      Check.same("the bits of codedShare", Double.doubleToLongBits(x.codedShare()), Double.doubleToLongBits(due));
      Check.same("digest", x.digest(), Digests.of(x, ""));
    });
  }

  private static void shares() {
    share("without lines 0.0", 0.0, 3, 24);
    share("without lines 0.0 at the width 32", 0.0, 0, 32);
    share("one line of 24 pixels", 4.0 * 8 / 24, 3, 24, 0);
    share("just 1", 1.0, 3, 32, 0);
    share("ten lines, 1", 1.0, 3, 32, new long[10]);
    share("the most", 7.0, 0, 8, 0x55);
    share("not a whole number", 4.0 * 6 / 9, 3, 9, 0);
    share("above 2", 4.0 * 6 / 11, 3, 11, 0);
    share("just 2", 2.0, 3, 12, 0);
    share("just 4", 4.0, 0, 9, 0b111111010);
    share("differences", 4.0 * 25 / 40, 2, 10, 0, 1023, 1023, 1023);
    Check.test("promise 48: behind the last line 0.0 again", () -> {
      RunFaxes x = Make.page(8, "#");
      x.send();
      x.dropLast();
      Check.same("codedShare", x.codedShare(), 0.0);
      Check.same("streamLength", x.streamLength(), 7);
    });
    Check.test("promise 48: by the page, not by the stream", () -> {
      RunFaxes x = Make.page(8, "........");
      x.send();
      x.lose(0);
      Check.same("codedShare", x.codedShare(), 3.0);
    });
  }
}
