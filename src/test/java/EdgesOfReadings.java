/** Promises 11, 38 to 46: where a reading begins, fails, goes on and ends; none and all received. */
final class EdgesOfReadings {
  private static final long BLACK_32 = 4294967295L;

  private EdgesOfReadings() {
  }

  static void run() {
    beginnings();
    ends();
    heads();
    behindA15();
    runsAndTheWidth();
    longRuns();
    foursAndTheWidth();
    linesAbove();
    checks();
    countsOfErrors();
    goingOn();
    noneAndAll();
    right();
    whatWouldBe();
  }

  /** Makes a reading, and compares the lines and the errors, "lines|place:reason place:reason". */
  private static void same(int width, String digits, String due) {
    RunFaxes x = Make.fed(width, digits);
    int saved = x.savedStates();
    int received = x.wouldReceive();
    Check.same("receive of " + digits, x.receive(), received);
    Check.same("what is received and noted of " + digits, Make.receivedLines(x) + "|" + Make.errors(x), due);
    Check.same("received", x.received(), received);
    Check.same("savedStates", x.savedStates(), Math.min(saved + 1, 5));
    Check.same("the stream", Make.stream(x), digits);
  }

  private static void reads(String what, int width, String digits, String due) {
    Check.test("promise 11: " + what + " (" + digits + ")", () -> same(width, digits, due));
  }

  private static void reads(String what, String digits, String due) {
    reads(what, 8, digits, due);
  }

  private static String hex(int number) {
    return Integer.toHexString(number);
  }

  /** A number as it stands in a kernel. */
  private static String inKernel(int number) {
    return number == 15 ? "f1" : hex(number);
  }

  private static void beginnings() {
    reads("no number", "", "|");
    reads("one number", "f", "|");
    reads("no marker", "0f1", "|");
    reads("a marker at the place 0", "f00088", "0|");
    reads("a marker at the place 1", "ff00088", "0|");
    Check.test("promise 11: a reading begins with no line received", () -> {
      RunFaxes x = Make.longestSent();
      Check.same("receive", x.receive(), 10);
      x.setStyle(2);
      x.send();
      x.replace(0, 0);
      Check.same("receive", x.receive(), 0);
      Check.same("lines", Make.receivedLines(x), "");
      x.undo();
      Check.same("lines behind undo", Make.receivedLines(x), "0123456789");
    });
    Check.test("promise 11: a reading begins with no errors", () -> {
      RunFaxes x = Make.fullErrors();
      x.replace(0, 0);
      x.receive();
      Check.same("errors", x.errors(), 19);
      Check.same("errorPlace(0)", x.errorPlace(0), 3);
      x.undo();
      Check.same("errors behind undo", x.errors(), 20);
    });
  }

  private static void ends() {
    endsAnywhere(8, "f00088");
    endsAnywhere(8, "f0013c1");
    endsAnywhere(8, "f001f1f11");
    endsAnywhere(8, "f0028a");
    endsAnywhere(11, "f0010001");
    endsAnywhere(32, "f0000e1f111");
    endsAnywhere(32, "f09141004007b");
    reads("a marker at the end", "0f0", "|1:1");
    reads("a 15 of the kernel at the end", "f0003f", "|0:1");
    reads("a 15 of a kernel of fours at the end", "f0013f", "|0:1");
    Check.test("promise 11: a marker at the last two places of 500", () -> {
      RunFaxes x = Make.fullStream("f0");
      Check.same("receive", x.receive(), 10);
      Check.same("errors", Make.errors(x), "498:1");
    });
    Check.test("promise 11: a 15 at the last place of 500 is no marker", () -> {
      RunFaxes x = Make.fullStream("0f");
      Check.same("receive", x.receive(), 10);
      Check.same("errors", x.errors(), 0);
    });
    Check.test("promise 11: the check at the last place of 500 is read", () -> {
      RunFaxes x = Make.fullStream("f000e201");
      Check.same("receive", x.receive(), 10);
      Check.same("errors", x.errors(), 0);
      Check.same("receivedPixels(0)", x.receivedPixels(0), 0L);
      Check.same("right", x.right(), 9);
    });
    Check.test("promise 11: a code that lacks its last number at the end of 500", () -> {
      RunFaxes x = Make.fullStream("f000e20");
      Check.same("receive", x.receive(), 10);
      Check.same("errors", Make.errors(x), "493:1");
      Check.same("right", x.right(), 10);
    });
    Check.test("promise 11: runs of 0 up to the end of 500", () -> {
      RunFaxes x = Make.fullStream("f000" + "0".repeat(100));
      Check.same("receive", x.receive(), 10);
      Check.same("errors", Make.errors(x), "396:1");
    });
  }

  /** A code is received when it is whole, and fails for the reason 1 when any of its end lacks. */
  private static void endsAnywhere(int width, String code) {
    Check.test("promise 11: the reason 1 at each end of " + code, () -> {
      for (int length = 2; length < code.length(); length++) {
        same(width, code.substring(0, length), "|0:1");
        same(width, "1" + code.substring(0, length), "|1:1");
      }
      same(width, code, code.charAt(2) + "|");
    });
  }

  private static void heads() {
    Check.test("promise 11: the numbers 0 to 9 of a line", () -> {
      for (int line = 0; line <= 9; line++) {
        same(8, "f0" + line + "08" + hex((line + 8) % 15), line + "|");
      }
    });
    Check.test("promise 11: the reason 2: the numbers 10 to 15 of a line", () -> {
      for (int line = 10; line <= 15; line++) {
        same(8, "f0" + hex(line) + "18", "|0:2");
        same(8, "f0" + hex(line), "|0:2");
      }
    });
    Check.test("promise 11: the modes 0 to 2", () -> {
      same(8, "f00088", "0|");
      same(8, "f001001", "0|");
      same(8, "f0028a", "0|");
    });
    Check.test("promise 11: the reason 3: the modes 3 to 15", () -> {
      for (int mode = 3; mode <= 15; mode++) {
        same(8, "f00" + hex(mode) + "8" + hex((mode + 8) % 15), "|0:3");
        same(8, "f00" + hex(mode), "|0:3");
        same(8, "f01" + hex(mode), "|0:3");
      }
    });
    reads("a line 15 as it stands, a 1 behind it", "f0f1088", "|0:2");
    reads("a mode 15 as it stands, a 1 behind it", "f00f188", "|0:3");
    reads("a line 15 and a 0 are the next marker", "f0f00088", "0|0:2");
    reads("a mode 15 and a 0 are the next marker", "f00f00088", "0|0:3");
    reads("the reason 2 comes ahead of 3", "f0a3", "|0:2");
    reads("the reason 3 comes ahead of 7", "f013", "|0:3");
  }

  /** A 15 in a kernel: 0 behind it is the reason 4, 1 is as is told, all others are the reason 5. */
  private static void behind(int width, String ahead, int with1) {
    Check.test("promise 11: what is behind the 15 in " + ahead + "f at the width " + width, () -> {
      same(width, ahead + "f", "|0:1");
      same(width, ahead + "f0", "|0:4 " + ahead.length() + ":1");
      same(width, ahead + "f1", "|0:" + with1);
      for (int behind = 2; behind <= 15; behind++) {
        same(width, ahead + "f" + hex(behind), "|0:5");
        same(width, ahead + "f" + hex(behind) + "00", behind == 15 ? "|0:5 " + (ahead.length() + 1) + ":1"
            : "|0:5");
      }
    });
  }

  private static void behindA15() {
    behind(8, "f000", 6);
    behind(8, "f0003", 6);
    behind(32, "f000", 6);
    behind(8, "f000e", 1);
    behind(8, "f000e0", 6);
    behind(32, "f000e", 1);
    behind(32, "f000e0", 1);
    behind(32, "f0002e1", 6);
    behind(32, "f000e1", 1);
    behind(32, "f000e2", 6);
    behind(8, "f001", 1);
    behind(8, "f0010", 1);
    behind(9, "f00100", 6);
    behind(12, "f00100", 1);
    behind(8, "f002", 6);
    behind(32, "f002e", 1);
    reads("the code behind a 15 with a 0 is received", "f0002f00088", "0|0:4");
    reads("the code behind a 15 with a 2 is received", "f0002f2f00088", "0|0:5");
    reads("the code behind two 15 is received", "f0002ff00088", "0|0:5");
  }

  private static void runsAndTheWidth() {
    for (int width = 8; width <= 13; width++) {
      int wide = width;
      Check.test("promise 11: one run, one shorter and one longer than the width " + width, () -> {
        same(wide, "f000" + hex(wide - 1), "|0:1");
        same(wide, "f000" + hex(wide - 1) + "1" + hex(wide % 15), "0|");
        same(wide, "f000" + hex(wide) + hex(wide % 15), "0|");
        if (wide < 13) {
          same(wide, "f000" + hex(wide + 1) + hex(wide + 1), "|0:6");
        }
        same(wide, "f000e0" + inKernel(wide + 1), "|0:6");
        same(wide, "f002" + hex(wide) + hex((wide + 2) % 15), "0|");
      });
    }
    reads("the width 32: 31, then 1", 32, "f000e1f111", "0|");
    reads("the width 32: 32", 32, "f000e201", "0|");
    reads("the width 32: 33", 32, "f000e21", "|0:6");
    reads("the width 32: 47", 32, "f000e2f1", "|0:6");
    reads("the width 32: 48", 32, "f000e30", "|0:6");
    reads("the width 32: 255", 32, "f000ef1f1", "|0:6");
    reads("the width 32: 13, 13 and 6", 32, "f000dd62", "0|");
    reads("the width 32: 13, 13 and 7", 32, "f000dd7", "|0:6");
    reads("the width 32: 0 and 33", 32, "f0000e21", "|0:6");
    reads("the width 32: a 15 for 15 pixels", 32, "f000f1e200", "|0:6");
    reads("the width 8: 7 and 2", "f00072", "|0:6");
    reads("the reason 6 as soon as the run is read", "f0009", "|0:6");
    reads("the reason 6 ahead of a marker", "f0009f00088", "0|0:6");
    reads("the first number of a long run is not yet too long", "f000ef1", "|0:1");
    reads("as long as the width: a 0 behind that is the check", 16, "f000e100", "0|");
    reads("as long as the width: a run of 0 behind that is no part of it", 16, "f000e10000", "0|");
    reads("as long as the width: a 0 behind that is the check, the right one comes too late", "f000808", "|0:8");
    reads("as long as the width: two 0 behind that are no part of it", "f0008008", "|0:8");
    reads("as long as the width: of differences a 0 behind that is the check", "f00280a", "|0:8");
  }

  private static long lineBy(int width, String digits) {
    RunFaxes x = Make.fed(width, digits);
    Check.same("receive of " + digits, x.receive(), 1);
    return x.receivedPixels(0);
  }

  private static void told(String what, int width, String digits, String row) {
    Check.test("promise 11: " + what + " (" + digits + ")",
        () -> Check.same("pixels", lineBy(width, digits), Make.pixels(row)));
  }

  private static void longRuns() {
    told("a run that begins with 14 may be 0", 8, "f000e0087", "########");
    told("a run that begins with 14 may be 1", 8, "f000e0177", ".#######");
    told("a run that begins with 14 may be 8", 8, "f000e087", "........");
    told("a run that begins with 14 may be 13", 13, "f000e0dc", ".............");
    told("the second run begins with 14", 8, "f0002e0337", "..###...");
    told("the last run begins with 14", 8, "f00023e037", "..###...");
    told("the first run is 0", 8, "f000088", "########");
    told("the first two runs are 0", 8, "f0000088", "........");
    told("a run of 0 between", 8, "f0003058", "........");
    told("a black run of 0", 8, "f0003e0057", "........");
    told("two runs of 0 between", 8, "f00030058", "...#####");
    told("the width 8, the last pixel", 8, "f000718", ".......#");
    Check.test("promise 11: the width 32, all black", () -> {
      Check.same("by runs", lineBy(32, "f0000e201"), BLACK_32);
      Check.same("raw", lineBy(32, "f001" + "f1".repeat(8) + "1"), BLACK_32);
      Check.same("by differences", lineBy(32, "f0020e203"), BLACK_32);
    });
    Check.test("promise 11: the width 32, 33 runs", () -> {
      Check.same("by runs", lineBy(32, "f0000" + "1".repeat(32) + "2"), 0x55555555L);
    });
    Check.test("promise 11: as many runs of 0 as there is room for", () -> {
      RunFaxes x = Make.wide(32);
      Make.feed(x, "f000" + "0".repeat(401) + "e201");
      Check.same("receive", x.receive(), 1);
      Check.same("receivedPixels", x.receivedPixels(0), BLACK_32);
    });
  }

  /** Each last four at a width: received, or a pixel from the width on is black. */
  private static void lastFour(int width) {
    Check.test("promise 11: each last four of raw pixels at the width " + width, () -> {
      int beyond = (1 << (3 - (width - 1) % 4)) - 1;
      String ahead = "f001" + "0".repeat((width - 1) / 4);
      for (int four = 0; four <= 15; four++) {
        String digits = ahead + inKernel(four) + hex((four + 1) % 15);
        same(width, digits, (four & beyond) == 0 ? "0|" : "|0:6");
        same(width, ahead + inKernel(four), (four & beyond) == 0 ? "|0:1" : "|0:6");
      }
    });
  }

  private static void foursAndTheWidth() {
    for (int width = 8; width <= 13; width++) {
      lastFour(width);
    }
    for (int width = 29; width <= 32; width++) {
      lastFour(width);
    }
    told("the first pixel, raw", 8, "f001809", "#.......");
    told("the last pixel, raw", 8, "f001012", ".......#");
    told("the last pixel of 9, raw", 9, "f0010089", "........#");
    told("the last pixel of 11, raw", 11, "f0010023", "..........#");
  }

  private static void linesAbove() {
    reads("the reason 7 not for the line 0", "f0028a", "0|");
    Check.test("promise 11: the reason 7 for each of the lines 1 to 9, as soon as the mode is read", () -> {
      for (int line = 1; line <= 9; line++) {
        String below = "f0" + line + "28" + hex((line + 10) % 15);
        String above = "f0" + (line - 1) + "08" + hex((line + 7) % 15);
        same(8, below, "|0:7");
        same(8, below.substring(0, 4), "|0:7");
        same(8, below + above, (line - 1) + "|0:7");
        same(8, above + below, (line - 1) + "" + line + "|");
        same(8, above.substring(0, 5) + "f" + below, "|0:8 6:7");
      }
    });
    reads("the line itself is not the line above", "f01089f0128b", "1|6:7");
    reads("the line below is not the line above", "f0208af0128b", "2|6:7");
    reads("the line 0 is not above the line 2", "f00088f0228c", "0|6:7");
    reads("a line above that was received by differences", "f0028af0128bf0228c", "012|");
    reads("the reason 7 comes ahead of 5", "f012f2", "|0:7");
    reads("the reason 7 comes ahead of 6", "f0129", "|0:7");
    Check.test("promise 11: not received in this reading, though in the one before", () -> {
      RunFaxes x = Make.fed(8, "f00088f0128b");
      Check.same("receive", x.receive(), 2);
      x.lose(0);
      Check.same("receive", x.receive(), 0);
      Check.same("errors", Make.errors(x), "5:7");
    });
    Check.test("promise 11: a line above of the page is not one that was received", () -> {
      RunFaxes x = Make.page(8, "........");
      Make.feed(x, "f0128b");
      Check.same("receive", x.receive(), 0);
      Check.same("errors", Make.errors(x), "0:7");
    });
    Check.test("promise 11: the pixels above are those received, not those of the page", () -> {
      RunFaxes x = Make.page(8, "........", "........");
      Make.feed(x, "f000088f0128b");
      Check.same("receive", x.receive(), 2);
      Check.same("receivedPixels(1)", x.receivedPixels(1), 255L);
      Check.same("right", x.right(), 0);
    });
  }

  private static void checkOf(String ahead, int due) {
    Check.test("promise 11: each check behind " + ahead, () -> {
      for (int check = 0; check <= 15; check++) {
        same(13, ahead + hex(check), check == due ? ahead.charAt(2) + "|" : "|0:8");
      }
    });
  }

  private static void checks() {
    checkOf("f000d", 13);
    checkOf("f010d", 14);
    checkOf("f020d", 0);
    checkOf("f030d", 1);
    checkOf("f0010000", 1);
    checkOf("f001f1f1f10", 1);
    checkOf("f002d", 0);
    reads("a check of 15 and a 0 are the next marker", "f0008f00088", "0|0:8");
    reads("a check of 15 and a 1", "f0008f1", "|0:8");
    reads("a check that lacks is the reason 1", "f0008", "|0:1");
  }

  private static void countsOfErrors() {
    for (int count : new int[] {0, 1, 19, 20, 21, 22, 60}) {
      Check.test("promises 11, 42: " + count + " times an error", () -> {
        RunFaxes x = Make.fed(8, "f0a".repeat(count) + "f00088");
        Check.same("wouldReceive", x.wouldReceive(), 1);
        Check.same("receive goes on", x.receive(), 1);
        int noted = Math.min(count, 20);
        Check.same("errors", x.errors(), noted);
        for (int error = 0; error < noted; error++) {
          Check.same("errorPlace", x.errorPlace(error), 3 * error);
          Check.same("errorReason", x.errorReason(error), 2);
        }
      });
    }
    Check.test("promises 43, 44: the error 19 is the twentieth, the next one is not noted", () -> {
      RunFaxes x = Make.fed(8, "f0a".repeat(19) + "f003" + "f00087");
      x.receive();
      Check.same("errors", x.errors(), 20);
      Check.same("errorPlace(18)", x.errorPlace(18), 54);
      Check.same("errorReason(18)", x.errorReason(18), 2);
      Check.same("errorPlace(19)", x.errorPlace(19), 57);
      Check.same("errorReason(19)", x.errorReason(19), 3);
    });
    Check.test("promises 43, 44: each reason, in the order in which they were noted", () -> {
      RunFaxes x = Make.fed(8, "f0a" + "f003" + "f000f0a" + "f000f2" + "f0009" + "f012" + "f00080" + "f0");
      x.receive();
      Check.same("errors", Make.errors(x), "0:2 3:3 7:4 11:2 14:5 20:6 25:7 29:8 35:1");
    });
    Check.test("promise 42: a stream of 250 markers", () -> {
      RunFaxes x = new RunFaxes();
      for (int length = 0; length < 500; length++) {
        x.gain(length, length % 2 == 0 ? 15 : 0);
      }
      Check.same("markers", x.markers(), 250);
      Check.same("receive", x.receive(), 0);
      Check.same("errors", x.errors(), 20);
      Check.same("errorPlace(19)", x.errorPlace(19), 38);
      Check.same("errorReason(19)", x.errorReason(19), 2);
    });
  }

  private static void goingOn() {
    reads("behind the check, at once", "f00088f01089", "01|");
    reads("behind the check, over what is no marker", "f00088f1ff0f01089", "01|9:2");
    reads("behind the check, and no more", "f00088f", "0|");
    reads("two behind the marker, where the next one is", "f0f00088", "0|0:2");
    reads("two behind the marker, not behind what was read", "f0002f0f00088", "0|0:4 5:2");
    reads("a marker at the end, behind a code", "f00088f0", "0|6:1");
    reads("each marker once", "f0f0f0", "|0:2 2:2 4:1");
    Check.test("promise 11: in place of one with this number that was", () -> {
      RunFaxes x = Make.fed(8, "f00088f000088");
      Check.same("receive", x.receive(), 1);
      Check.same("receivedPixels", x.receivedPixels(0), 255L);
      RunFaxes other = Make.fed(8, "f09082f09282f090082");
      Check.same("receive", other.receive(), 1);
      Check.same("receivedPixels", other.receivedPixels(9), 255L);
    });
    Check.test("promise 11: one that fails takes nobody's place", () -> {
      String[] failing = {"f00089", "f0009", "f000", "f0030", "f000f2"};
      for (String code : failing) {
        RunFaxes x = Make.fed(8, "f000088" + code);
        Check.same("receive", x.receive(), 1);
        Check.same("receivedPixels", x.receivedPixels(0), 255L);
        Check.same("errors", x.errors(), 1);
      }
    });
  }

  private static void noneAndAll() {
    Check.test("promises 38, 40: none is received, also behind a reading of nothing", () -> {
      RunFaxes x = Make.fullPage();
      Check.same("receive", x.receive(), 0);
      Check.same("received", x.received(), 0);
      Check.same("right", x.right(), 0);
      Check.same("isReceived(0)", x.isReceived(0), false);
      Check.same("isReceived(9)", x.isReceived(9), false);
    });
    Check.test("promises 38, 40: all ten are received", () -> {
      RunFaxes x = Make.fullPage();
      x.send();
      Check.same("receive", x.receive(), 10);
      Check.same("received", x.received(), 10);
      Check.same("right", x.right(), 10);
      for (int line = 0; line <= 9; line++) {
        Check.same("isReceived", x.isReceived(line), true);
        Check.same("receivedPixels", x.receivedPixels(line), x.pixelsOf(line));
      }
    });
    Check.test("promises 38, 39: the first and the last line alone", () -> {
      RunFaxes x = Make.fed(8, "f000088f090082");
      Check.same("receive", x.receive(), 2);
      Check.same("lines", Make.receivedLines(x), "09");
      Check.same("receivedPixels(0)", x.receivedPixels(0), 255L);
      Check.same("receivedPixels(9)", x.receivedPixels(9), 255L);
    });
    Check.test("promise 39: 32 black pixels and none", () -> {
      RunFaxes x = Make.wide(32);
      x.addLine(BLACK_32);
      x.addLine(0);
      x.addLine(1L << 31);
      x.send();
      x.receive();
      Check.same("receivedPixels(0)", x.receivedPixels(0), BLACK_32);
      Check.same("receivedPixels(1)", x.receivedPixels(1), 0L);
      Check.same("receivedPixels(2)", x.receivedPixels(2), 1L << 31);
    });
  }

  private static void right() {
    Check.test("promise 41: a page of no line, ten lines received", () -> {
      RunFaxes x = Make.fullPage();
      x.send();
      x.receive();
      for (int left = 9; left >= 0; left--) {
        x.dropLast();
        Check.same("right", x.right(), left);
        Check.same("wouldBeRight", x.wouldBeRight(), left);
        Check.same("received", x.received(), 10);
      }
    });
    Check.test("promise 41: a line that is unlike in its first or its last pixel", () -> {
      RunFaxes x = Make.longestSent();
      x.receive();
      x.setLine(0, 0x55555554L);
      Check.same("right", x.right(), 9);
      x.setLine(9, 0x55555555L | 1L << 31);
      Check.same("right", x.right(), 8);
      x.setLine(9, 0x55555555L);
      Check.same("right", x.right(), 9);
    });
    Check.test("promise 41: a white line of the page that is not received", () -> {
      RunFaxes x = Make.page(8, "........");
      Check.same("right", x.right(), 0);
      x.receive();
      Check.same("right", x.right(), 0);
    });
    Check.test("promise 41: a line that was received before, and not again", () -> {
      RunFaxes x = Make.page(8, "........");
      x.send();
      x.receive();
      Check.same("right", x.right(), 1);
      x.lose(0);
      Check.same("right ahead of the reading", x.right(), 1);
      x.receive();
      Check.same("right", x.right(), 0);
    });
  }

  private static void whatWouldBe() {
    Check.test("promises 45, 46: none on an empty stream", () -> {
      RunFaxes x = Make.fullPage();
      Check.same("wouldReceive", x.wouldReceive(), 0);
      Check.same("wouldBeRight", x.wouldBeRight(), 0);
    });
    Check.test("promises 45, 46: all ten", () -> {
      RunFaxes x = Make.longestSent();
      Check.same("wouldReceive", x.wouldReceive(), 10);
      Check.same("wouldBeRight", x.wouldBeRight(), 10);
      Check.same("received", x.received(), 0);
    });
    Check.test("promises 45, 46: behind 20 errors, which stay", () -> {
      RunFaxes x = Make.page(8, "........");
      Make.feed(x, "f0a".repeat(21) + "f00088");
      Check.same("wouldReceive", x.wouldReceive(), 1);
      Check.same("wouldBeRight", x.wouldBeRight(), 1);
      Check.same("errors", x.errors(), 0);
      x.receive();
      x.lose(0);
      Check.same("wouldReceive", x.wouldReceive(), 1);
      Check.same("errorPlace(19)", x.errorPlace(19), 57);
    });
    Check.test("promises 45, 46: what is received does not help", () -> {
      RunFaxes x = Make.page(8, "........", "........");
      Make.feed(x, "f00088f0128b");
      x.receive();
      x.replace(0, 0);
      Check.same("wouldReceive", x.wouldReceive(), 0);
      Check.same("wouldBeRight", x.wouldBeRight(), 0);
      Check.same("right", x.right(), 2);
    });
  }
}
