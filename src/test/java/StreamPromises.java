/** Promises 8 to 11 and 35 to 47: the stream, its damage, and readings. */
final class StreamPromises {
  private StreamPromises() {
  }

  static void run() {
    Check.test("promise 8: replace", StreamPromises::replace);
    Check.test("promise 9: lose", StreamPromises::lose);
    Check.test("promise 10: gain", StreamPromises::gain);
    Check.test("promise 10: gain up to 500", StreamPromises::gainToTheEnd);
    Check.test("promise 11: receive what was sent", StreamPromises::receiveSent);
    Check.test("promise 11: receive anew", StreamPromises::receiveAnew);
    Check.test("promise 11: reason 1", StreamPromises::streamEnds);
    Check.test("promise 11: reasons 2 and 3", StreamPromises::wrongHeads);
    Check.test("promise 11: reasons 4 and 5", StreamPromises::wrongEscapes);
    Check.test("promise 11: reason 6 by runs", StreamPromises::wrongRuns);
    Check.test("promise 11: reason 6 by raw pixels", StreamPromises::wrongFours);
    Check.test("promise 11: reason 7", StreamPromises::nothingAbove);
    Check.test("promise 11: reason 8", StreamPromises::wrongChecks);
    Check.test("promise 11: the first reason counts", StreamPromises::firstReason);
    Check.test("promise 11: runs of any length", StreamPromises::runsOfAnyLength);
    Check.test("promise 11: where a reading goes on", StreamPromises::goingOn);
    Check.test("promise 11: a line in place of one before", StreamPromises::lineAgain);
    Check.test("promise 35: streamLength", StreamPromises::streamLength);
    Check.test("promise 36: numberAt", StreamPromises::numberAt);
    Check.test("promise 37: markers", StreamPromises::markers);
    Check.test("promises 38, 39: isReceived and receivedPixels", StreamPromises::receivedLines);
    Check.test("promise 40: received", StreamPromises::received);
    Check.test("promise 41: right", StreamPromises::right);
    Check.test("promises 42 to 44: errors", StreamPromises::errors);
    Check.test("promises 42 to 44: at most 20 errors", StreamPromises::manyErrors);
    Check.test("promises 45, 46: wouldReceive and wouldBeRight", StreamPromises::wouldReceive);
    Check.test("promise 47: rightIfReplaced", StreamPromises::rightIfReplaced);
  }

  private static void replace() {
    RunFaxes x = Make.fed(8, "f00088");
    Check.same("replace(4, 15)", x.replace(4, 15), 8);
    Check.same("replace(0, 0)", x.replace(0, 0), 15);
    Check.same("replace(5, 8)", x.replace(5, 8), 8);
    Check.same("stream", Make.stream(x), "0000f8");
    Check.same("savedStates", x.savedStates(), 5);
    x.undo();
    x.undo();
    Check.same("stream behind undo", Make.stream(x), "f000f8");
    for (int wrong : new int[] {-1, 6, 500, Integer.MIN_VALUE, Integer.MAX_VALUE}) {
      Check.refuses(x, IndexOutOfBoundsException.class, () -> x.replace(wrong, 0));
      Check.refuses(x, IndexOutOfBoundsException.class, () -> x.replace(wrong, 16));
    }
    for (int wrong : new int[] {-1, 16, Integer.MIN_VALUE, Integer.MAX_VALUE}) {
      Check.refuses(x, IllegalArgumentException.class, () -> x.replace(5, wrong));
    }
  }

  private static void lose() {
    RunFaxes x = Make.fed(8, "f01234");
    Check.same("lose(0)", x.lose(0), 15);
    Check.same("stream", Make.stream(x), "01234");
    Check.same("lose(4)", x.lose(4), 4);
    Check.same("lose(1)", x.lose(1), 1);
    Check.same("stream", Make.stream(x), "023");
    x.undo();
    Check.same("stream behind undo", Make.stream(x), "0123");
    for (int wrong : new int[] {-1, 4, 500, Integer.MIN_VALUE, Integer.MAX_VALUE}) {
      Check.refuses(x, IndexOutOfBoundsException.class, () -> x.lose(wrong));
    }
    RunFaxes empty = new RunFaxes();
    Check.refuses(empty, IndexOutOfBoundsException.class, () -> empty.lose(0));
  }

  private static void gain() {
    RunFaxes x = new RunFaxes();
    Check.same("gain(0, 1)", x.gain(0, 1), 1);
    Check.same("gain(1, 2)", x.gain(1, 2), 2);
    Check.same("gain(0, 15)", x.gain(0, 15), 3);
    Check.same("gain(1, 0)", x.gain(1, 0), 4);
    Check.same("stream", Make.stream(x), "f012");
    x.undo();
    Check.same("stream behind undo", Make.stream(x), "f12");
    for (int wrong : new int[] {-1, 4, 501, Integer.MIN_VALUE, Integer.MAX_VALUE}) {
      Check.refuses(x, IndexOutOfBoundsException.class, () -> x.gain(wrong, 0));
      Check.refuses(x, IndexOutOfBoundsException.class, () -> x.gain(wrong, 16));
    }
    for (int wrong : new int[] {-1, 16, Integer.MIN_VALUE, Integer.MAX_VALUE}) {
      Check.refuses(x, IllegalArgumentException.class, () -> x.gain(3, wrong));
    }
  }

  private static void gainToTheEnd() {
    RunFaxes x = new RunFaxes();
    for (int i = 0; i < 500; i++) {
      Check.same("gain", x.gain(i, i % 16), i + 1);
    }
    Check.same("numberAt(499)", x.numberAt(499), 499 % 16);
    Check.refuses(x, IllegalStateException.class, () -> x.gain(500, 0));
    Check.same("lose(499)", x.lose(499), 499 % 16);
    Check.same("gain(0, 9)", x.gain(0, 9), 500);
    Check.same("numberAt(499)", x.numberAt(499), 498 % 16);
    Check.same("numberAt(0)", x.numberAt(0), 9);
  }

  private static void receiveSent() {
    String[] rows = {"..####...", "..####..#", "#########", "#.#.#.#.#", "........."};
    for (int style = 0; style <= 3; style++) {
      RunFaxes x = Make.page(9, rows);
      x.setStyle(style);
      x.send();
      Check.same("receive", x.receive(), 5);
      Check.same("errors", x.errors(), 0);
      for (int line = 0; line < 5; line++) {
        Check.same("receivedPixels", x.receivedPixels(line), Make.pixels(rows[line]));
      }
    }
  }

  private static void receiveAnew() {
    RunFaxes x = Make.fed(8, "f00088 f01089 f0a");
    Check.same("receive", x.receive(), 2);
    Check.same("errors", Make.errors(x), "12:2");
    x.replace(4, 9);
    Check.same("receive", x.receive(), 1);
    Check.same("lines", Make.receivedLines(x), "1");
    Check.same("errors", Make.errors(x), "0:6 12:2");
    x.undo();
    Check.same("lines behind undo", Make.receivedLines(x), "01");
    Check.same("errors behind undo", Make.errors(x), "12:2");
    RunFaxes empty = new RunFaxes();
    Check.same("receive of nothing", empty.receive(), 0);
    Check.same("savedStates", empty.savedStates(), 1);
  }

  private static void streamEnds() {
    String[] ends = {"f0", "f00", "f000", "f0004", "f0008", "f000e", "f000e0", "f000ef", "f000e0f",
        "f0000", "f001", "f0013", "f001f", "f0013f", "f0013c", "f001f1f1", "f0013f1", "f0028"};
    for (String end : ends) {
      Check.same(end, Make.read(8, end), "|0:1");
      Check.same("5 " + end, Make.read(8, "5" + end), "|1:1");
    }
    Check.same("no marker", Make.read(8, "f"), "|");
    Check.same("no marker", Make.read(8, "0f1ff20"), "|");
  }

  private static void wrongHeads() {
    Check.same("line 9", Make.read(8, "f09082"), "9|");
    Check.same("line 10", Make.read(8, "f0a083"), "|0:2");
    Check.same("line 15, as it stands", Make.read(8, "f0f1088"), "|0:2");
    Check.same("line 15 is the next marker", Make.read(8, "f0f00088"), "0|0:2");
    Check.same("line 10 at the end", Make.read(8, "f0a"), "|0:2");
    Check.same("mode 3", Make.read(8, "f0038b"), "|0:3");
    Check.same("mode 15, as it stands", Make.read(8, "f00f188"), "|0:3");
    Check.same("mode 15 is the next marker", Make.read(8, "f00f00088"), "0|0:3");
    Check.same("mode 3 at the end", Make.read(8, "f003"), "|0:3");
    Check.same("line 10 and mode 3", Make.read(8, "f0a3"), "|0:2");
  }

  private static void wrongEscapes() {
    Check.same("a marker where a run begins", Make.read(8, "f0002f00088"), "0|0:4");
    Check.same("a marker in a long run", Make.read(8, "f000ef00088"), "0|0:4");
    Check.same("a marker at the end of a long run", Make.read(8, "f000e0f00088"), "0|0:4");
    Check.same("a marker in raw pixels", Make.read(8, "f0013f00088"), "0|0:4");
    Check.same("a marker at the end", Make.read(8, "f0002f0"), "|0:4 5:1");
    Check.same("a 2 behind a 15", Make.read(8, "f0002f2"), "|0:5");
    Check.same("a 15 behind a 15", Make.read(8, "f0002ff1"), "|0:5");
    Check.same("a 15 behind a 15, and a marker", Make.read(8, "f0002ff00088"), "0|0:5");
    Check.same("a 2 in a long run", Make.read(8, "f000ef2"), "|0:5");
    Check.same("a 2 at the end of a long run", Make.read(8, "f000e0fe"), "|0:5");
    Check.same("a 2 in raw pixels", Make.read(8, "f001f2"), "|0:5");
  }

  private static void wrongRuns() {
    Check.same("9 of 8", Make.read(8, "f0009"), "|0:6");
    Check.same("3 and 5 of 8", Make.read(8, "f000358"), "0|");
    Check.same("3 and 6 of 8", Make.read(8, "f00036"), "|0:6");
    Check.same("13 of 8", Make.read(8, "f000d"), "|0:6");
    Check.same("14 with 9 of 8", Make.read(8, "f000e09"), "|0:6");
    Check.same("14 is told behind its last number", Make.read(8, "f000e9"), "|0:1");
    Check.same("14 with 255 of 8", Make.read(8, "f000f1"), "|0:6");
    Check.same("15 and 0 and 15", Make.read(8, "f000ef1f1"), "|0:6");
    Check.same("a 15 where the second run begins", Make.read(8, "f0002f1"), "|0:6");
    Check.same("a 15 where a run begins on a wide page", Make.read(32, "f000f1f11111"), "|0:6");
    Check.same("differences", Make.read(8, "f00236"), "|0:6");
  }

  private static void wrongFours() {
    Check.same("width 10: 0, 0, 1", Make.read(10, "f001001"), "|0:6");
    Check.same("width 10: 0, 0, 2", Make.read(10, "f001002"), "|0:6");
    Check.same("width 10: 0, 0, 15", Make.read(10, "f00100f1"), "|0:6");
    Check.same("width 10: 0, 0, 4", Make.read(10, "f0010045"), "0|");
    Check.same("width 10: 0, 0, 12", Make.read(10, "f00100cd"), "0|");
    Check.same("width 9: 0, 0, 4", Make.read(9, "f001004"), "|0:6");
    Check.same("width 9: 0, 0, 8", Make.read(9, "f0010089"), "0|");
    Check.same("width 11: 0, 0, 1", Make.read(11, "f001001"), "|0:6");
    Check.same("width 11: 0, 0, 14", Make.read(11, "f00100e0"), "0|");
    Check.same("width 12: 0, 0, 1", Make.read(12, "f0010012"), "0|");
    RunFaxes x = Make.fed(10, "f0010045");
    x.receive();
    Check.same("receivedPixels", x.receivedPixels(0), 512L);
  }

  private static void nothingAbove() {
    Check.same("as soon as the mode is read", Make.read(8, "f012"), "|0:7");
    Check.same("line 0", Make.read(8, "f0028a"), "0|");
    Check.same("line 1 behind line 0", Make.read(8, "f00088f0128b"), "01|");
    Check.same("line 1 ahead of line 0", Make.read(8, "f0128bf00088"), "0|0:7");
    Check.same("line 2 behind line 0", Make.read(8, "f00088f0228c"), "0|6:7");
    Check.same("line 9 behind line 8", Make.read(8, "f08081f09284"), "89|");
    Check.same("line 1 by runs", Make.read(8, "f01089"), "1|");
    RunFaxes x = Make.fed(8, "f00088f0128b");
    Check.same("receive", x.receive(), 2);
    x.replace(5, 7);
    Check.same("receive", x.receive(), 0);
    Check.same("in this reading", Make.errors(x), "0:8 6:7");
  }

  private static void wrongChecks() {
    Check.same("7 for 8", Make.read(8, "f00087"), "|0:8");
    Check.same("15 for 8", Make.read(8, "f0008f"), "|0:8");
    Check.same("15 for 0", Make.read(16, "f000e10f"), "|0:8");
    Check.same("a check that is the next marker", Make.read(8, "f0008f00088"), "0|0:8");
    Check.same("0 behind the kernel is the check", Make.read(16, "f000e100"), "0|");
    Check.same("by the number of the line", Make.read(8, "f03088"), "|0:8");
    Check.same("by the mode", Make.read(8, "f00288"), "|0:8");
    Check.same("raw, without what is put behind", Make.read(8, "f001f1f11"), "0|");
    Check.same("raw, with it", Make.read(8, "f001f1f13"), "|0:8");
  }

  private static void firstReason() {
    Check.same("7 ahead of 6", Make.read(8, "f0129"), "|0:7");
    Check.same("2 ahead of 3", Make.read(8, "f0b4"), "|0:2");
    Check.same("3 ahead of 7", Make.read(8, "f013"), "|0:3");
    Check.same("6 ahead of a marker", Make.read(8, "f0009f00088"), "0|0:6");
    Check.same("5 ahead of 6", Make.read(8, "f000f2"), "|0:5");
    Check.same("4 ahead of 6", Make.read(8, "f000f0"), "|0:4 4:1");
    Check.same("1 ahead of 6", Make.read(8, "f000f"), "|0:1");
    Check.same("6 ahead of 8", Make.read(10, "f0010010"), "|0:6");
  }

  private static long lineBy(int width, String digits) {
    RunFaxes x = Make.fed(width, digits);
    Check.same("receive", x.receive(), 1);
    return x.receivedPixels(0);
  }

  private static void runsOfAnyLength() {
    Check.same("14 with 8", lineBy(8, "f000e087"), 0L);
    Check.same("0, 8", lineBy(8, "f000088"), 255L);
    Check.same("0, 0, 0, 8", lineBy(8, "f00000088"), 255L);
    Check.same("0, 0, 8", lineBy(8, "f0000088"), 0L);
    Check.same("2, 0, 0, 3, 3", lineBy(8, "f000200338"), Make.pixels("..###..."));
    Check.same("14 with 0, and 8", lineBy(8, "f000e0087"), 255L);
    Check.same("2, 14 with 3, 3", lineBy(8, "f0002e0337"), Make.pixels("..###..."));
    Check.same("0, 32", lineBy(32, "f0000e201"), 4294967295L);
    Check.same("1, 31", lineBy(32, "f0001e1f11"), 4294967294L);
    Check.same("31, 1", lineBy(32, "f000e1f111"), 1L << 31);
  }

  private static void goingOn() {
    Check.same("behind the check", Make.read(8, "f00088 3 f01089"), "01|");
    Check.same("a 15 ahead of a marker", Make.read(8, "ff00088"), "0|");
    Check.same("two behind the marker", Make.read(8, "f0f0f0f00088"), "0|0:2 2:2 4:2");
    Check.same("a marker in a code that fails", Make.read(8, "f000 2 f0 0088"), "0|0:4");
    Check.same("a check and a 0", Make.read(8, "f000880f01089"), "01|");
    // The check of the first code is 14: no marker begins in it.
    Check.same("a code ahead of a 0", Make.read(8, "f06 0 8e 0 f00088"), "06|");
  }

  private static void lineAgain() {
    RunFaxes x = Make.fed(8, "f00088 f000088");
    Check.same("receive", x.receive(), 1);
    Check.same("receivedPixels", x.receivedPixels(0), 255L);
    RunFaxes below = Make.fed(8, "f000088 f0128b f00088 f0128b");
    Check.same("receive", below.receive(), 2);
    Check.same("the line above of then", below.receivedPixels(1), 0L);
    RunFaxes kept = Make.fed(8, "f000088 f0128b f00088");
    Check.same("receive", kept.receive(), 2);
    Check.same("the line above of then", kept.receivedPixels(1), 255L);
    RunFaxes failing = Make.fed(8, "f000088 f00089");
    Check.same("receive", failing.receive(), 1);
    Check.same("a line that fails takes no place", failing.receivedPixels(0), 255L);
  }

  private static void streamLength() {
    RunFaxes x = Make.page(8, "..####..");
    Check.same("streamLength", x.streamLength(), 0);
    x.send();
    Check.same("streamLength behind send", x.streamLength(), 7);
    x.lose(0);
    Check.same("streamLength behind lose", x.streamLength(), 6);
    x.gain(6, 0);
    x.gain(0, 0);
    Check.same("streamLength behind gain", x.streamLength(), 8);
    x.replace(0, 1);
    Check.same("streamLength behind replace", x.streamLength(), 8);
  }

  private static void numberAt() {
    RunFaxes x = Make.fed(8, "f0a3");
    int[] due = {15, 0, 10, 3};
    for (int place = 0; place < 4; place++) {
      Check.same("numberAt(" + place + ")", x.numberAt(place), due[place]);
    }
    for (int wrong : new int[] {-1, 4, 499, 500, Integer.MIN_VALUE, Integer.MAX_VALUE}) {
      Check.refuses(x, IndexOutOfBoundsException.class, () -> x.numberAt(wrong));
    }
    x.lose(3);
    Check.refuses(x, IndexOutOfBoundsException.class, () -> x.numberAt(3));
  }

  private static void markers() {
    Check.same("markers of nothing", new RunFaxes().markers(), 0);
    Check.same("markers", Make.fed(8, "f0").markers(), 1);
    Check.same("markers", Make.fed(8, "f").markers(), 0);
    Check.same("markers", Make.fed(8, "0f").markers(), 0);
    Check.same("markers", Make.fed(8, "ff0f1f0f00f").markers(), 3);
    RunFaxes x = Make.fed(8, "f0f0");
    x.lose(3);
    Check.same("markers: nothing is behind the end", x.markers(), 1);
  }

  private static void receivedLines() {
    RunFaxes x = Make.fed(8, "f00088 f090082");
    Check.same("isReceived ahead", x.isReceived(0), false);
    Check.refuses(x, IllegalStateException.class, () -> x.receivedPixels(0));
    x.receive();
    Check.same("lines", Make.receivedLines(x), "09");
    Check.same("receivedPixels(0)", x.receivedPixels(0), 0L);
    Check.same("receivedPixels(9)", x.receivedPixels(9), 255L);
    for (int line = 1; line < 9; line++) {
      int missing = line;
      Check.refuses(x, IllegalStateException.class, () -> x.receivedPixels(missing));
    }
    for (int wrong : new int[] {-1, 10, 32, Integer.MIN_VALUE, Integer.MAX_VALUE}) {
      Check.refuses(x, IndexOutOfBoundsException.class, () -> x.isReceived(wrong));
      Check.refuses(x, IndexOutOfBoundsException.class, () -> x.receivedPixels(wrong));
    }
  }

  private static void received() {
    RunFaxes x = Make.page(8, "..####..", "..####..");
    x.send();
    Check.same("received", x.received(), 0);
    x.receive();
    Check.same("received", x.received(), 2);
    x.send();
    x.dropLast();
    Check.same("received: of the latest reading", x.received(), 2);
  }

  private static void right() {
    RunFaxes x = Make.page(8, "..####..", "..####..", "#.......");
    Check.same("right", x.right(), 0);
    x.send();
    x.receive();
    Check.same("right", x.right(), 3);
    x.setLine(1, 0);
    Check.same("right, by the page of now", x.right(), 2);
    x.dropLast();
    Check.same("right, of lines of the page", x.right(), 1);
    x.addLine(1);
    x.addLine(0);
    Check.same("right, of lines that are received", x.right(), 2);
  }

  private static void errors() {
    RunFaxes x = Make.fed(8, "3f0a f003 f00087");
    Check.same("errors", x.errors(), 0);
    x.receive();
    Check.same("errors", x.errors(), 3);
    int[] places = {1, 4, 8};
    int[] reasons = {2, 3, 8};
    for (int i = 0; i < 3; i++) {
      Check.same("errorPlace(" + i + ")", x.errorPlace(i), places[i]);
      Check.same("errorReason(" + i + ")", x.errorReason(i), reasons[i]);
    }
    for (int wrong : new int[] {-1, 3, 19, 20, Integer.MIN_VALUE, Integer.MAX_VALUE}) {
      Check.refuses(x, IndexOutOfBoundsException.class, () -> x.errorPlace(wrong));
      Check.refuses(x, IndexOutOfBoundsException.class, () -> x.errorReason(wrong));
    }
  }

  private static void manyErrors() {
    StringBuilder digits = new StringBuilder();
    for (int i = 0; i < 21; i++) {
      digits.append("f0a");
    }
    RunFaxes x = Make.fed(8, digits + "f00088");
    Check.same("receive goes on", x.receive(), 1);
    Check.same("errors", x.errors(), 20);
    for (int i = 0; i < 20; i++) {
      Check.same("errorPlace", x.errorPlace(i), 3 * i);
      Check.same("errorReason", x.errorReason(i), 2);
    }
    Check.refuses(x, IndexOutOfBoundsException.class, () -> x.errorPlace(20));
    Check.refuses(x, IndexOutOfBoundsException.class, () -> x.errorReason(20));
    Check.same("receive again", x.receive(), 1);
    Check.same("errors again", x.errors(), 20);
  }

  private static void wouldReceive() {
    RunFaxes x = Make.page(8, "..####..", "..####..", "#.......");
    Check.same("wouldReceive", x.wouldReceive(), 0);
    x.send();
    x.replace(19, 0);
    x.setLine(1, 255);
    long before = x.digest();
    Check.same("wouldReceive", x.wouldReceive(), 2);
    Check.same("wouldBeRight", x.wouldBeRight(), 1);
    Check.same("received stays", x.received(), 0);
    Check.same("errors stay", x.errors(), 0);
    Check.same("the digest stays", x.digest(), before);
    x.receive();
    x.replace(6, 0);
    Check.same("wouldBeRight", x.wouldBeRight(), 0);
    Check.same("wouldReceive", x.wouldReceive(), 0);
    Check.same("received stays", x.received(), 2);
    Check.same("right stays", x.right(), 1);
    Check.same("errors stay", Make.errors(x), "13:8");
    Check.same("savedStates", x.savedStates(), 5);
  }

  private static void rightIfReplaced() {
    RunFaxes x = Make.page(8, "..####..", "..####..");
    x.send();
    Check.same("stream", Make.stream(x), "f0013c1f0128b");
    long before = x.digest();
    Check.same("the same number", x.rightIfReplaced(0, 15), 2);
    Check.same("the first marker", x.rightIfReplaced(0, 14), 0);
    Check.same("the last check", x.rightIfReplaced(12, 0), 1);
    Check.same("the last mode", x.rightIfReplaced(10, 0), 1);
    Check.same("the digest stays", x.digest(), before);
    Check.same("the stream stays", Make.stream(x), "f0013c1f0128b");
    x.receive();
    Check.same("the last check", x.rightIfReplaced(12, 0), 1);
    Check.same("right stays", x.right(), 2);
    for (int wrong : new int[] {-1, 13, 500, Integer.MIN_VALUE, Integer.MAX_VALUE}) {
      Check.refuses(x, IndexOutOfBoundsException.class, () -> x.rightIfReplaced(wrong, 0));
      Check.refuses(x, IndexOutOfBoundsException.class, () -> x.rightIfReplaced(wrong, 16));
    }
    for (int wrong : new int[] {-1, 16, Integer.MIN_VALUE, Integer.MAX_VALUE}) {
      Check.refuses(x, IllegalArgumentException.class, () -> x.rightIfReplaced(0, wrong));
    }
  }
}
