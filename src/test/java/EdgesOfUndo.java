import java.math.BigInteger;
import java.util.List;
import java.util.function.Consumer;
import java.util.function.Supplier;

/** Promises 18 to 21 and 49: none, five and more saved states, the snapshot, the hash that overflows. */
final class EdgesOfUndo {
  private static final List<Supplier<RunFaxes>> MADE = List.of(Make::laden, EdgesOfUndo::fewStates);

  private EdgesOfUndo() {
  }

  static void run() {
    savedStates();
    ring();
    whatUndoLeaves();
    looks();
    changingNothing();
    savingOne();
    snapshots();
    digests();
    lastCalls();
  }

  private static void savedStates() {
    Check.test("promise 21: 0 to 5, and no more", () -> {
      RunFaxes x = new RunFaxes();
      for (int calls = 0; calls <= 20; calls++) {
        Check.same("savedStates", x.savedStates(), Math.min(calls, 5));
        x.setStyle(calls % 4);
      }
    });
    Check.test("promise 18: one state saved, then none", () -> {
      RunFaxes x = Make.wide(8);
      Check.same("undo", x.undo(), 0);
      Check.same("width", x.width(), 24);
      Check.refuses(x, IllegalStateException.class, x::undo);
      Check.same("savedStates", x.savedStates(), 0);
    });
    Check.test("promise 18: five states, the fifth call back is undone", () -> {
      RunFaxes x = new RunFaxes();
      for (int line = 0; line < 5; line++) {
        x.addLine(line);
      }
      for (int left = 4; left >= 0; left--) {
        Check.same("undo", x.undo(), left);
        Check.same("lines", x.lines(), left);
      }
    });
    Check.test("promise 18: six states, the oldest one is dropped first", () -> {
      RunFaxes x = new RunFaxes();
      for (int line = 0; line < 6; line++) {
        x.addLine(line);
      }
      for (int left = 4; left >= 0; left--) {
        Check.same("undo", x.undo(), left);
        Check.same("lines", x.lines(), left + 1);
      }
      Check.refuses(x, IllegalStateException.class, x::undo);
      Check.same("lines", x.lines(), 1);
    });
  }

  private static void ring() {
    Check.test("promise 18: any number of calls, then all that can be undone", () -> {
      for (int calls = 0; calls <= 23; calls++) {
        RunFaxes x = new RunFaxes();
        for (int width = 0; width < calls; width++) {
          x.setWidth(8 + width);
        }
        for (int back = 1; back <= Math.min(calls, 5); back++) {
          Check.same("undo", x.undo(), Math.min(calls, 5) - back);
          Check.same("width", x.width(), calls == back ? 24 : 8 + calls - back - 1);
        }
        Check.refuses(x, IllegalStateException.class, x::undo);
      }
    });
    Check.test("promise 18: back and forth, from any place of the five", () -> {
      RunFaxes x = new RunFaxes();
      for (int round = 0; round < 12; round++) {
        x.setWidth(8 + round);
        x.setWidth(31);
        x.setWidth(32);
        x.undo();
        x.undo();
        Check.same("width", x.width(), 8 + round);
        Check.same("savedStates", x.savedStates(), Math.min(round + 1, 3));
      }
    });
  }

  private static void whatUndoLeaves() {
    Check.test("promise 18: undo leaves the buffer, none and sixty characters", () -> {
      RunFaxes x = Make.fullBuffer();
      x.undo();
      Check.same("width", x.width(), 24);
      Check.same("clearBuffer", x.clearBuffer(), 60);
      x.setStyle(0);
      Make.type(x, "s");
      x.setStyle(1);
      x.clearBuffer();
      x.undo();
      Check.same("clearBuffer", x.clearBuffer(), 0);
    });
    Check.test("promise 18: undo leaves the snapshot", () -> {
      RunFaxes x = Make.wide(8);
      x.keep();
      x.undo();
      Check.same("width", x.width(), 24);
      Check.same("restore", x.restore(), 0);
      Check.same("width", x.width(), 8);
    });
    Check.test("promise 18: undo leaves the snapshot that was taken later", () -> {
      RunFaxes x = Make.wide(8);
      x.keep();
      x.addLine(1);
      x.keep();
      x.undo();
      Check.same("restore", x.restore(), 1);
    });
    Check.test("promise 18: ten lines, 500 numbers, ten received, 20 errors", () -> {
      RunFaxes x = Make.fullStream("f0a".repeat(21));
      x.receive();
      Check.same("received", x.received(), 10);
      Check.same("errors", x.errors(), 20);
      x.setWidth(8);
      Make.play(x, "+#;s;r");
      x.undo();
      x.undo();
      Check.same("lines", x.lines(), 10);
      Check.same("pixelsOf(9)", x.pixelsOf(9), 0x55555555L);
      Check.same("streamLength", x.streamLength(), 500);
      Check.same("numberAt(499)", x.numberAt(499), 10);
      Check.same("lines received", Make.receivedLines(x), "0123456789");
      Check.same("receivedPixels(9)", x.receivedPixels(9), 0x55555555L);
      Check.same("errors", x.errors(), 20);
      Check.same("errorPlace(19)", x.errorPlace(19), 494);
    });
    Check.test("promise 18: undo of undo there is none", () -> {
      RunFaxes x = new RunFaxes();
      x.setStyle(0);
      x.setStyle(1);
      Check.same("undo", x.undo(), 1);
      Check.same("undo", x.undo(), 0);
      Check.same("style", x.style(), 3);
    });
  }

  /** Something of all, as laden, but with two saved states alone. */
  private static RunFaxes fewStates() {
    RunFaxes x = Make.wide(8);
    x.keep();
    Make.play(x, "+#;+.;s;x12=0;r;x99=1");
    Make.type(x, "s;");
    return x;
  }

  /** Of all that can be seen of two objects, one of which was called, nothing differs. */
  private static void leavesAll(String what, Consumer<RunFaxes> call) {
    Check.test("nothing is changed by " + what, () -> {
      for (Supplier<RunFaxes> made : MADE) {
        RunFaxes x = made.get();
        call.accept(x);
        Check.same("all", Whole.of(x), Whole.of(made.get()));
      }
    });
  }

  private static void looks() {
    leavesAll("firstError", RunFaxes::firstError);
    leavesAll("hasStopped", RunFaxes::hasStopped);
    leavesAll("stoppedPart", RunFaxes::stoppedPart);
    leavesAll("savedStates", RunFaxes::savedStates);
    leavesAll("width", RunFaxes::width);
    leavesAll("lines", RunFaxes::lines);
    leavesAll("style", RunFaxes::style);
    leavesAll("pixelsOf", x -> x.pixelsOf(0));
    leavesAll("isBlack", x -> x.isBlack(0, 7));
    leavesAll("runsOf", x -> x.runsOf(0));
    leavesAll("longestRun", x -> x.longestRun(0));
    leavesAll("blackPixels", RunFaxes::blackPixels);
    for (int mode = 0; mode <= 2; mode++) {
      int by = mode;
      leavesAll("codeLength", x -> x.codeLength(0, by));
      leavesAll("codeLengthByCounting", x -> x.codeLengthByCounting(0, by));
      leavesAll("checkOf", x -> x.checkOf(0, by));
    }
    leavesAll("modeOf", x -> x.modeOf(0));
    leavesAll("wouldSend", RunFaxes::wouldSend);
    leavesAll("streamLength", RunFaxes::streamLength);
    leavesAll("numberAt", x -> x.numberAt(0));
    leavesAll("markers", RunFaxes::markers);
    leavesAll("isReceived", x -> x.isReceived(0));
    leavesAll("receivedPixels", x -> x.receivedPixels(0));
    leavesAll("received", RunFaxes::received);
    leavesAll("right", RunFaxes::right);
    leavesAll("errors", RunFaxes::errors);
    leavesAll("errorPlace", x -> x.errorPlace(0));
    leavesAll("errorReason", x -> x.errorReason(0));
    leavesAll("wouldReceive", RunFaxes::wouldReceive);
    leavesAll("wouldBeRight", RunFaxes::wouldBeRight);
    leavesAll("rightIfReplaced", x -> x.rightIfReplaced(0, 3));
    leavesAll("codedShare", RunFaxes::codedShare);
    leavesAll("digest", RunFaxes::digest);
    leavesAll("append and clearBuffer, but the buffer", x -> {
      x.clearBuffer();
      Make.type(x, "s;");
    });
  }

  /** Saved is a state, and undo brings it back, though the call changed nothing. */
  private static void saves(String what, Supplier<RunFaxes> made, Consumer<RunFaxes> call) {
    Check.test("undoable, also if it changes nothing: " + what, () -> {
      RunFaxes x = made.get();
      int saved = x.savedStates();
      Check.holds("there is room for one more", saved < 5);
      long before = x.digest();
      call.accept(x);
      Check.same("savedStates", x.savedStates(), saved + 1);
      Check.same("undo", x.undo(), saved);
      Check.same("digest", x.digest(), before);
    });
  }

  private static RunFaxes whitePage() {
    RunFaxes x = Make.page(8, "........");
    x.send();
    return x;
  }

  private static RunFaxes restored() {
    RunFaxes x = Make.page(8, "........");
    x.keep();
    return x;
  }

  private static void changingNothing() {
    saves("setWidth", RunFaxes::new, x -> x.setWidth(24));
    saves("setLine", EdgesOfUndo::whitePage, x -> x.setLine(0, 0));
    saves("setStyle", RunFaxes::new, x -> x.setStyle(3));
    saves("send of nothing", RunFaxes::new, RunFaxes::send);
    saves("send of the same", EdgesOfUndo::whitePage, RunFaxes::send);
    saves("replace", EdgesOfUndo::whitePage, x -> x.replace(0, 15));
    saves("receive of nothing", RunFaxes::new, RunFaxes::receive);
    saves("play of what stops at once", RunFaxes::new, x -> Make.play(x, "-"));
    saves("play of a reading of nothing", RunFaxes::new, x -> Make.play(x, "r"));
    saves("restore", EdgesOfUndo::restored, RunFaxes::restore);
  }

  /** With two states saved each undoable call saves just one more; undo brings that one back. */
  private static void savesOne(String what, Consumer<RunFaxes> call) {
    Check.test("undoable, one state saved: " + what, () -> {
      RunFaxes x = fewStates();
      Check.same("savedStates ahead", x.savedStates(), 2);
      x.clearBuffer();
      long before = x.digest();
      call.accept(x);
      Check.same("savedStates", x.savedStates(), 3);
      Check.same("undo", x.undo(), 2);
      Check.same("digest behind undo", x.digest(), before);
    });
  }

  /** Each of the others saves none. */
  private static void savesNone(String what, Consumer<RunFaxes> call) {
    Check.test("not undoable: " + what, () -> {
      RunFaxes x = fewStates();
      call.accept(x);
      Check.same("savedStates", x.savedStates(), 2);
      Check.same("undo", x.undo(), 1);
      Check.same("lines", x.lines(), 0);
    });
  }

  private static void savingOne() {
    savesOne("setWidth", x -> x.setWidth(9));
    savesOne("addLine", x -> x.addLine(3));
    savesOne("setLine", x -> x.setLine(1, 3));
    savesOne("dropLast", RunFaxes::dropLast);
    savesOne("setStyle", x -> x.setStyle(0));
    savesOne("send", RunFaxes::send);
    savesOne("replace", x -> x.replace(0, 3));
    savesOne("lose", x -> x.lose(0));
    savesOne("gain", x -> x.gain(0, 3));
    savesOne("receive", RunFaxes::receive);
    savesOne("play", x -> Make.play(x, "r;-;s;x0=1"));
    savesOne("restore", RunFaxes::restore);
    savesNone("append", x -> x.append('s'));
    savesNone("clearBuffer", RunFaxes::clearBuffer);
    savesNone("keep", RunFaxes::keep);
    savesNone("play that throws", x -> Check.refuses(x, IllegalArgumentException.class, x::play));
  }

  private static void snapshots() {
    Check.test("promise 19: of no line and of ten", () -> {
      Check.same("keep", new RunFaxes().keep(), 0);
      Check.same("keep", Make.fullPage().keep(), 10);
    });
    Check.test("promise 20: of no line and of ten", () -> {
      RunFaxes x = new RunFaxes();
      x.keep();
      x.addLine(1);
      Check.same("restore", x.restore(), 0);
      RunFaxes full = Make.fullPage();
      full.keep();
      full.setWidth(9);
      Check.same("restore", full.restore(), 10);
      Check.same("width", full.width(), 8);
    });
    Check.test("promise 19: one snapshot, in place of the one before", () -> {
      RunFaxes x = Make.fullPage();
      x.keep();
      x.setWidth(32);
      Check.same("keep", x.keep(), 0);
      x.undo();
      Check.same("restore", x.restore(), 0);
      Check.same("width", x.width(), 32);
    });
    Check.test("promise 20: the snapshot stays, any number of times", () -> {
      RunFaxes x = Make.fullPage();
      x.keep();
      for (int times = 0; times < 12; times++) {
        x.setWidth(8 + times);
        x.addLine(7);
        Check.same("restore", x.restore(), 10);
        Check.same("pixelsOf(0)", x.pixelsOf(0), 1L);
        Check.same("savedStates", x.savedStates(), 5);
      }
    });
    Check.test("promise 20: what is done behind restore leaves the snapshot", () -> {
      RunFaxes x = Make.laden();
      x.keep();
      x.restore();
      x.setLine(0, 0);
      x.replace(0, 0);
      x.receive();
      Make.type(x, "s");
      x.play();
      x.restore();
      Check.same("pixelsOf(0)", x.pixelsOf(0), 3L);
      Check.same("numberAt(0)", x.numberAt(0), 15);
      Check.same("lines", Make.receivedLines(x), "01");
      Check.same("stoppedPart", x.stoppedPart(), 1);
    });
    Check.test("promise 20: restore with five states saved drops the oldest one", () -> {
      RunFaxes x = new RunFaxes();
      x.keep();
      for (int line = 0; line < 5; line++) {
        x.addLine(line);
      }
      Check.same("restore", x.restore(), 0);
      Check.same("savedStates", x.savedStates(), 5);
      for (int left = 4; left >= 0; left--) {
        Check.same("undo", x.undo(), left);
        Check.same("lines", x.lines(), left + 1);
      }
    });
    Check.test("promise 20: the buffer, the saved states and the snapshot are not restored", () -> {
      RunFaxes x = new RunFaxes();
      Make.type(x, "s;");
      x.keep();
      x.setStyle(1);
      x.append('r');
      x.restore();
      Check.same("savedStates", x.savedStates(), 2);
      Check.same("play", x.play(), 2);
    });
    Check.test("promise 20: 500 numbers, ten lines received, 20 errors", () -> {
      RunFaxes x = Make.fullStream("f0a".repeat(21));
      x.receive();
      x.keep();
      long before = x.digest();
      x.setWidth(8);
      x.restore();
      Check.same("streamLength", x.streamLength(), 500);
      Check.same("digest", x.digest(), before);
    });
  }

  /** The hash without overflow, cut to 64 bits at the end. */
  private static long cut(long... values) {
    BigInteger hash = BigInteger.valueOf(4409);
    for (long value : values) {
      hash = hash.multiply(BigInteger.valueOf(31)).add(BigInteger.valueOf(value));
    }
    return hash.longValue();
  }

  private static void digests() {
    Check.test("promise 49: with overflow, of an empty page", () -> {
      // Width, lines, style, and ten numbers more; ten lines not received; no stop; the share; no text.
      long due = cut(24, 0, 3, 0, 0, 0, 0, 0, 0, 0, 0, 0, 0,
          0, 0, 0, 0, 0, 0, 0, 0, 0, 0, 0, 0, 0);
      Check.same("digest", new RunFaxes().digest(), due);
    });
    Check.test("promise 49: with overflow, of one white line, received, with an error and a stop", () -> {
      RunFaxes x = Make.page(8, "........");
      Make.play(x, "s;-;-");
      x.undo();
      x.addLine(255);
      x.dropLast();
      x.undo();
      x.undo();
      Make.play(x, "s;r;x6=0");
      Make.feed(x, "f0");
      Make.play(x, "r;x8=0");
      Make.type(x, "~!");
      long share = Double.doubleToLongBits(3.0);
      long due = cut(8, 1, 3, 0, 6, 8, 2, 1, 1, 1, 1, 1, 5,
          0, 1, 8, 0, 6, 6, 8, 7, 7, 1, 6, 6, 10,
          15, 0, 0, 0, 8, 8, 15, 0,
          1, 0, 0, 0, 0, 0, 0, 0, 0, 0, 0,
          6, 1,
          1, 1, share, 2, 126, 33);
      Check.same("savedStates", x.savedStates(), 5);
      Check.same("digest", x.digest(), due);
    });
    Check.test("promise 49: of all that is full", () -> {
      RunFaxes x = Make.fullStream("f0a".repeat(21));
      x.receive();
      Make.play(x, "-;-;+" + "#".repeat(32) + ";x499=0;+.;+.");
      Make.type(x, "~".repeat(60));
      Check.same("lines", x.lines(), 10);
      Check.same("streamLength", x.streamLength(), 500);
      Check.same("stoppedPart", x.stoppedPart(), 5);
      Check.same("errors", x.errors(), 20);
      Check.same("digest", x.digest(), allFull().digest());
    });
  }

  /** What the test above makes, made with the oracle. */
  private static Oracle allFull() {
    Oracle oracle = new Oracle();
    oracle.setWidth(32);
    oracle.setStyle(0);
    for (int line = 0; line < 10; line++) {
      oracle.addLine(0x55555555L);
    }
    oracle.send();
    for (int place = 380; place < 500; place++) {
      boolean late = place >= 437;
      oracle.gain(place, late && place % 3 == 2 ? 15 : late && place % 3 == 1 ? 10 : 0);
    }
    oracle.receive();
    ("-;-;+" + "#".repeat(32) + ";x499=0;+.;+.").chars().forEach(oracle::append);
    oracle.play();
    "~".repeat(60).chars().forEach(oracle::append);
    return oracle;
  }

  private static void lastCalls() {
    Check.test("an object is used for 512 calls", () -> {
      RunFaxes x = new RunFaxes();
      for (int calls = 0; calls < 510; calls += 2) {
        x.addLine(calls);
        x.dropLast();
      }
      x.addLine(7);
      Check.same("the 512th call", x.pixelsOf(0), 7L);
    });
  }
}
