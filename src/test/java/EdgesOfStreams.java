/** Promises 8 to 10, 35 to 37 and 47: the first and the last place, 0 and 15, 0 and 500 numbers. */
final class EdgesOfStreams {
  private EdgesOfStreams() {
  }

  static void run() {
    replacing();
    losing();
    gaining();
    looking();
    countingMarkers();
    replacingForATry();
  }

  private static void replacing() {
    Check.test("promise 8: the only place, 0 and 15", () -> {
      RunFaxes x = Make.fed(8, "7");
      Check.same("replace(0, 0)", x.replace(0, 0), 7);
      Check.same("replace(0, 15)", x.replace(0, 15), 0);
      Check.same("stream", Make.stream(x), "f");
    });
    Check.test("promise 8: the first and the last place of 500", () -> {
      RunFaxes x = Make.fullStream("3");
      Check.same("replace(0)", x.replace(0, 0), 15);
      Check.same("replace(499)", x.replace(499, 15), 3);
      Check.same("numberAt(0)", x.numberAt(0), 0);
      Check.same("numberAt(1)", x.numberAt(1), 0);
      Check.same("numberAt(498)", x.numberAt(498), 0);
      Check.same("numberAt(499)", x.numberAt(499), 15);
      Check.same("streamLength", x.streamLength(), 500);
    });
    Check.test("promise 8: undoable, also if the number is the same", () -> {
      RunFaxes x = Make.fed(8, "7");
      Check.same("replace(0, 7)", x.replace(0, 7), 7);
      Check.same("savedStates", x.savedStates(), 3);
      x.undo();
      Check.same("stream behind undo", Make.stream(x), "7");
    });
    Check.test("promise 8: what is received stays", () -> {
      RunFaxes x = Make.laden();
      x.replace(0, 0);
      x.replace(17, 1);
      Check.same("lines", Make.receivedLines(x), "01");
      Check.same("errors", Make.errors(x), "16:1");
    });
  }

  private static void losing() {
    Check.test("promise 9: the only number", () -> {
      RunFaxes x = Make.fed(8, "7");
      Check.same("lose(0)", x.lose(0), 7);
      Check.same("streamLength", x.streamLength(), 0);
      x.undo();
      Check.same("stream behind undo", Make.stream(x), "7");
    });
    Check.test("promise 9: the first one of 500", () -> {
      RunFaxes x = Make.fullStream("123");
      Check.same("lose(0)", x.lose(0), 15);
      Check.same("streamLength", x.streamLength(), 499);
      Check.same("numberAt(0)", x.numberAt(0), 0);
      Check.same("numberAt(495)", x.numberAt(495), 0);
      Check.same("numberAt(496)", x.numberAt(496), 1);
      Check.same("numberAt(498)", x.numberAt(498), 3);
    });
    Check.test("promise 9: the last one of 500, and of those that are left", () -> {
      RunFaxes x = Make.fullStream("123");
      Check.same("lose(499)", x.lose(499), 3);
      Check.same("lose(498)", x.lose(498), 2);
      Check.same("streamLength", x.streamLength(), 498);
      Check.same("numberAt(497)", x.numberAt(497), 1);
      x.undo();
      x.undo();
      Check.same("numberAt(499) behind undo", x.numberAt(499), 3);
    });
    Check.test("promise 9: those behind it move up, those ahead stay", () -> {
      String[] due = {"1f20f", "0f20f", "0120f", "01f0f", "01f2f", "01f20"};
      int[] lost = {0, 1, 15, 2, 0, 15};
      for (int place = 0; place < 6; place++) {
        RunFaxes x = Make.fed(8, "01f20f");
        Check.same("lose(" + place + ")", x.lose(place), lost[place]);
        Check.same("stream", Make.stream(x), due[place]);
      }
    });
    Check.test("promise 9: what is received stays", () -> {
      RunFaxes x = Make.laden();
      x.lose(0);
      x.lose(16);
      Check.same("lines", Make.receivedLines(x), "01");
      Check.same("errors", Make.errors(x), "16:1");
    });
  }

  private static void gaining() {
    Check.test("promise 10: into an empty stream, 0 and 15", () -> {
      RunFaxes x = new RunFaxes();
      Check.same("gain(0, 0)", x.gain(0, 0), 1);
      Check.same("gain(0, 15)", x.gain(0, 15), 2);
      Check.same("stream", Make.stream(x), "f0");
    });
    Check.test("promise 10: ahead of each place, and at the end", () -> {
      String[] due = {"9f01", "f901", "f091", "f019"};
      for (int place = 0; place <= 3; place++) {
        RunFaxes x = Make.fed(8, "f01");
        Check.same("gain(" + place + ")", x.gain(place, 9), 4);
        Check.same("stream", Make.stream(x), due[place]);
      }
    });
    Check.test("promise 10: the 500th number at the end", () -> {
      RunFaxes x = Make.fullStream("12");
      x.lose(499);
      Check.same("gain(499)", x.gain(499, 15), 500);
      Check.same("numberAt(498)", x.numberAt(498), 1);
      Check.same("numberAt(499)", x.numberAt(499), 15);
    });
    Check.test("promise 10: the 500th number ahead of all", () -> {
      RunFaxes x = Make.fullStream("12");
      x.lose(499);
      Check.same("gain(0)", x.gain(0, 9), 500);
      Check.same("numberAt(0)", x.numberAt(0), 9);
      Check.same("numberAt(1)", x.numberAt(1), 15);
      Check.same("numberAt(499)", x.numberAt(499), 1);
    });
    Check.test("promise 10: the 500th number ahead of the last one", () -> {
      RunFaxes x = Make.fullStream("12");
      x.lose(0);
      Check.same("gain(498)", x.gain(498, 15), 500);
      Check.same("numberAt(497)", x.numberAt(497), 1);
      Check.same("numberAt(498)", x.numberAt(498), 15);
      Check.same("numberAt(499)", x.numberAt(499), 2);
      x.undo();
      Check.same("streamLength behind undo", x.streamLength(), 499);
      Check.same("numberAt(498) behind undo", x.numberAt(498), 2);
    });
    Check.test("promise 10: behind a refusal at 500 one lost makes room", () -> {
      RunFaxes x = Make.fullStream("");
      Check.refuses(x, IllegalStateException.class, () -> x.gain(500, 1));
      x.lose(250);
      Check.same("gain(499)", x.gain(499, 1), 500);
    });
    Check.test("promise 10: what is received stays", () -> {
      RunFaxes x = Make.laden();
      x.gain(0, 7);
      Check.same("lines", Make.receivedLines(x), "01");
      Check.same("errors", Make.errors(x), "16:1");
    });
  }

  private static void looking() {
    Check.test("promise 35: 0 and 500", () -> {
      Check.same("streamLength", new RunFaxes().streamLength(), 0);
      Check.same("streamLength", Make.fullStream("").streamLength(), 500);
    });
    Check.test("promise 36: the first and the last place", () -> {
      Check.same("numberAt(0) of one", Make.fed(8, "9").numberAt(0), 9);
      RunFaxes x = Make.fullStream("ef");
      Check.same("numberAt(0)", x.numberAt(0), 15);
      Check.same("numberAt(498)", x.numberAt(498), 14);
      Check.same("numberAt(499)", x.numberAt(499), 15);
    });
    Check.test("promise 36: each number from 0 to 15", () -> {
      RunFaxes x = Make.fed(8, "0123456789abcdef");
      for (int number = 0; number <= 15; number++) {
        Check.same("numberAt", x.numberAt(number), number);
      }
    });
  }

  private static void marked(String digits, int due) {
    Check.test("promise 37: markers in " + (digits.isEmpty() ? "nothing" : digits), () -> {
      RunFaxes x = Make.fed(8, digits);
      Check.same("markers", x.markers(), due);
      Check.same("the stream stays", Make.stream(x), digits);
    });
  }

  private static void countingMarkers() {
    marked("", 0);
    marked("0", 0);
    marked("f", 0);
    marked("0f", 0);
    marked("ff", 0);
    marked("f1", 0);
    marked("e0", 0);
    marked("ff1", 0);
    marked("f0", 1);
    marked("ff0", 1);
    marked("f00", 1);
    marked("f0f", 1);
    marked("0f0f", 1);
    marked("f0f0", 2);
    marked("ff0f0f", 2);
    Check.test("promise 37: at the last two places of 500", () -> {
      Check.same("f0", Make.fullStream("f0").markers(), 11);
      Check.same("0f", Make.fullStream("0f").markers(), 10);
    });
    Check.test("promise 37: a marker that is lost is not counted, though its 0 was there", () -> {
      RunFaxes x = Make.fullStream("f0");
      x.lose(499);
      Check.same("markers", x.markers(), 10);
      x.gain(499, 0);
      Check.same("markers", x.markers(), 11);
    });
    Check.test("promise 37: in front of what a shorter stream left behind", () -> {
      RunFaxes x = Make.fed(8, "f0f0");
      x.lose(1);
      x.lose(1);
      x.lose(1);
      Check.same("markers", x.markers(), 0);
      Check.same("receive", x.receive(), 0);
      Check.same("errors", x.errors(), 0);
    });
  }

  private static void replacingForATry() {
    Check.test("promise 47: the first and the last place, 0 and 15", () -> {
      RunFaxes x = Make.page(8, "........", "........");
      x.send();
      Check.same("stream", Make.stream(x), "f00088f01089");
      Check.same("rightIfReplaced(0, 0)", x.rightIfReplaced(0, 0), 1);
      Check.same("rightIfReplaced(0, 15)", x.rightIfReplaced(0, 15), 2);
      Check.same("rightIfReplaced(11, 0)", x.rightIfReplaced(11, 0), 1);
      Check.same("rightIfReplaced(11, 9)", x.rightIfReplaced(11, 9), 2);
      Check.same("rightIfReplaced(11, 15)", x.rightIfReplaced(11, 15), 1);
      Check.same("the stream stays", Make.stream(x), "f00088f01089");
      Check.same("nothing is received", x.received(), 0);
      Check.same("savedStates", x.savedStates(), 4);
    });
    Check.test("promise 47: a line that is mended", () -> {
      RunFaxes x = Make.page(8, "........");
      x.send();
      x.replace(5, 7);
      Check.same("wouldBeRight", x.wouldBeRight(), 0);
      Check.same("rightIfReplaced(5, 8)", x.rightIfReplaced(5, 8), 1);
      Check.same("wouldBeRight", x.wouldBeRight(), 0);
    });
    Check.test("promise 47: ten lines right, and none", () -> {
      RunFaxes x = Make.longestSent();
      x.setStyle(2);
      x.send();
      Check.same("the same number", x.rightIfReplaced(0, 15), 10);
      Check.same("the lines below too are lost", x.rightIfReplaced(0, 14), 0);
      Check.same("the last check", x.rightIfReplaced(x.streamLength() - 1, 15), 9);
    });
    Check.test("promise 47: at the place 499", () -> {
      RunFaxes x = Make.fullStream("f000e202");
      Check.same("wouldBeRight", x.wouldBeRight(), 10);
      Check.same("rightIfReplaced(499, 1)", x.rightIfReplaced(499, 1), 9);
      Check.same("numberAt(499)", x.numberAt(499), 2);
    });
    Check.test("promise 47: what is received and noted stays", () -> {
      RunFaxes x = Make.laden();
      long before = x.digest();
      Check.same("rightIfReplaced", x.rightIfReplaced(0, 0), 1);
      Check.same("digest", x.digest(), before);
    });
  }
}
