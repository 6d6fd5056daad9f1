/** Promises 18 to 21 and 49: undo, the snapshot, the digest. */
final class UndoPromises {
  private UndoPromises() {
  }

  static void run() {
    Check.test("promise 18: undo", UndoPromises::undo);
    Check.test("promise 18: undo of each undoable method", UndoPromises::undoOfEach);
    Check.test("promise 18: five states at most", UndoPromises::fiveStates);
    Check.test("promise 19: keep", UndoPromises::keep);
    Check.test("promise 20: restore", UndoPromises::restore);
    Check.test("promises 18, 20: all of the state comes back", UndoPromises::wholeState);
    Check.test("promises 18, 20: what is received comes back", UndoPromises::receivedComesBack);
    Check.test("promise 21: savedStates", UndoPromises::savedStates);
    Check.test("promise 49: digest", UndoPromises::digest);
    Check.test("promise 49: digest of many shares", UndoPromises::digestOfShares);
  }

  private static void undo() {
    RunFaxes x = new RunFaxes();
    Check.refuses(x, IllegalStateException.class, x::undo);
    x.addLine(1);
    x.addLine(2);
    Check.same("undo", x.undo(), 1);
    Check.same("pixelsOf(0)", x.pixelsOf(0), 1L);
    Check.same("lines", x.lines(), 1);
    Check.same("undo", x.undo(), 0);
    Check.same("lines", x.lines(), 0);
    Check.refuses(x, IllegalStateException.class, x::undo);
    x.setStyle(3);
    Check.same("a call that changes nothing is saved", x.savedStates(), 1);
  }

  private static void undone(String what, RunFaxes x, Check.Body call) throws Exception {
    Check.same("savedStates", x.savedStates(), 4);
    long before = x.digest();
    call.run();
    Check.same("savedStates behind " + what, x.savedStates(), 5);
    Check.same("undo of " + what, x.undo(), 4);
    Check.same("the digest behind undo of " + what, x.digest(), before);
  }

  private static void undoOfEach() throws Exception {
    RunFaxes x = Make.page(8, "..####..", "#.......");
    x.keep();
    x.send();
    undone("setWidth", x, () -> x.setWidth(9));
    undone("addLine", x, () -> x.addLine(3));
    undone("setLine", x, () -> x.setLine(1, 3));
    undone("dropLast", x, x::dropLast);
    undone("setStyle", x, () -> x.setStyle(0));
    undone("send", x, x::send);
    undone("replace", x, () -> x.replace(0, 3));
    undone("lose", x, () -> x.lose(0));
    undone("gain", x, () -> x.gain(0, 3));
    undone("receive", x, x::receive);
    undone("restore", x, x::restore);
    undone("play", x, () -> Make.play(x, "r;-;s;x0=1"));
    undone("play that stops", x, () -> Make.play(x, "x499=1"));
    Check.same("the stream is there again", x.streamLength(), 14);
  }

  private static void fiveStates() {
    RunFaxes x = new RunFaxes();
    for (int i = 0; i < 8; i++) {
      x.addLine(i);
      Check.same("savedStates", x.savedStates(), Math.min(i + 1, 5));
    }
    for (int left = 4; left >= 0; left--) {
      Check.same("undo", x.undo(), left);
      Check.same("lines", x.lines(), 3 + left);
    }
    Check.refuses(x, IllegalStateException.class, x::undo);
    x.addLine(9);
    x.addLine(10);
    x.undo();
    x.addLine(11);
    Check.same("savedStates", x.savedStates(), 2);
    x.undo();
    x.undo();
    Check.same("lines", x.lines(), 3);
  }

  private static void keep() {
    RunFaxes x = Make.page(8, "..####..");
    Check.same("keep", x.keep(), 1);
    Check.same("keep is not undoable", x.savedStates(), 2);
    x.addLine(1);
    Check.same("keep in place of the one before", x.keep(), 2);
    x.dropLast();
    x.dropLast();
    Check.same("restore", x.restore(), 2);
    Check.same("rows", Make.rows(x), "..####../#.......");
  }

  private static void restore() {
    RunFaxes x = Make.page(8, "..####..");
    Check.refuses(x, IllegalStateException.class, x::restore);
    x.send();
    x.keep();
    x.setWidth(32);
    x.setStyle(0);
    Check.same("restore", x.restore(), 1);
    Check.same("rows", Make.rows(x), "..####..");
    Check.same("stream", Make.stream(x), "f0013c1");
    Check.same("style", x.style(), 3);
    x.addLine(0);
    x.replace(0, 0);
    Check.same("the snapshot stays", x.restore(), 1);
    Check.same("stream", Make.stream(x), "f0013c1");
    x.undo();
    Check.same("stream behind undo", Make.stream(x), "00013c1");
    Check.same("lines behind undo", x.lines(), 2);
    x.undo();
    x.undo();
    Check.same("the snapshot stays behind undo", x.restore(), 1);
  }

  private static void wholeState() {
    RunFaxes x = Make.wide(9);
    x.setStyle(1);
    x.addLine(256);
    x.send();
    x.gain(8, 15);
    x.gain(9, 0);
    x.receive();
    Make.play(x, "+#;x400=1");
    long before = x.digest();
    x.keep();
    Make.type(x, "s");
    x.setWidth(12);
    Make.play(x, ";r");
    x.setStyle(0);
    Check.same("savedStates", x.savedStates(), 5);
    x.restore();
    Check.same("width", x.width(), 9);
    Check.same("style", x.style(), 1);
    Check.same("rows", Make.rows(x), "........#/#........");
    Check.same("stream", Make.stream(x), "f0010089f0");
    Check.same("lines received", Make.receivedLines(x), "0");
    Check.same("receivedPixels", x.receivedPixels(0), 256L);
    Check.same("errors", Make.errors(x), "8:1");
    Check.same("stoppedPart", x.stoppedPart(), 1);
    Check.same("the digest, all five states being saved", x.digest(), before);
    x.undo();
    Check.same("width behind undo", x.width(), 12);
    Check.same("hasStopped behind undo", x.hasStopped(), false);
  }

  private static void receivedComesBack() {
    RunFaxes x = Make.fed(8, "f000088 f0a");
    x.receive();
    x.keep();
    x.lose(3);
    x.receive();
    Check.same("receivedPixels", x.receivedPixels(0), 0L);
    Check.same("errors", Make.errors(x), "6:2");
    x.undo();
    Check.same("receivedPixels behind undo", x.receivedPixels(0), 255L);
    Check.same("errors behind undo", Make.errors(x), "7:2");
    x.receive();
    x.restore();
    Check.same("receivedPixels behind restore", x.receivedPixels(0), 255L);
    Check.same("errors behind restore", Make.errors(x), "7:2");
    x.undo();
    Check.same("receivedPixels behind undo", x.receivedPixels(0), 0L);
  }

  private static void savedStates() {
    RunFaxes x = new RunFaxes();
    Check.same("savedStates", x.savedStates(), 0);
    x.send();
    x.receive();
    Check.same("savedStates", x.savedStates(), 2);
    x.keep();
    x.append('s');
    x.clearBuffer();
    x.wouldReceive();
    x.digest();
    Check.same("savedStates", x.savedStates(), 2);
    x.restore();
    Check.same("savedStates behind restore", x.savedStates(), 3);
    x.undo();
    Check.same("savedStates behind undo", x.savedStates(), 2);
    Make.play(x, "s;s;s");
    Check.same("savedStates behind play", x.savedStates(), 3);
  }

  private static void digest() {
    long empty = 4409;
    int[] first = {24, 0, 3};
    for (int value : first) {
      empty = 31 * empty + value;
    }
    for (int i = 0; i < 10 + 10 + 1 + 1 + 1; i++) {
      empty = 31 * empty;
    }
    Check.same("digest of a new object", new RunFaxes().digest(), empty);

    RunFaxes x = Make.page(10, "..####....", "..####...#", "##########");
    Check.same("digest", x.digest(), Digests.of(x, ""));
    x.send();
    x.replace(20, 3);
    x.receive();
    Check.same("received", x.received(), 2);
    Check.same("errors", x.errors(), 1);
    Make.play(x, "s;x499=1");
    Make.type(x, "s~!");
    Check.same("digest", x.digest(), Digests.of(x, "s~!"));
    Check.same("digest again", x.digest(), Digests.of(x, "s~!"));
  }

  private static void digestOfShares() {
    for (int width = 8; width <= 32; width++) {
      for (int lines = 1; lines <= 10; lines++) {
        RunFaxes x = Make.wide(width);
        for (int line = 0; line < lines; line++) {
          x.addLine(0x9249A5B7L * (line + 1) & (1L << width) - 1);
        }
        Check.same("digest", x.digest(), Digests.of(x, ""));
      }
    }
  }
}
