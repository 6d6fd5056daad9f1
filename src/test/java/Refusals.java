import java.util.function.Consumer;
import java.util.function.Supplier;

/**
 * Calls that throw: each just one step beyond what is allowed, far beyond it, and where several
 * exceptions apply. Behind each the object is, in all that can be seen, as its twin without the call.
 */
final class Refusals {
  private static final int[] FAR_BELOW = {Integer.MIN_VALUE, Integer.MIN_VALUE + 1, -32, -1};
  private static final int[] FAR_ABOVE = {1 << 16, 1 << 30, Integer.MAX_VALUE - 1, Integer.MAX_VALUE};

  private Refusals() {
  }

  private interface At {
    void on(RunFaxes x, int value);
  }

  static void run() {
    settings();
    linesOfThePage();
    pixels();
    pixelsOfALine();
    modes();
    places();
    numbers();
    received();
    errors();
    texts();
    nothingThere();
    firstOfSeveral();
  }

  // ---- ways to tell a refusal

  private static void argument(String what, Supplier<RunFaxes> made, Consumer<RunFaxes> call) {
    refused(what, made, IllegalArgumentException.class, call);
  }

  private static void index(String what, Supplier<RunFaxes> made, Consumer<RunFaxes> call) {
    refused(what, made, IndexOutOfBoundsException.class, call);
  }

  private static void state(String what, Supplier<RunFaxes> made, Consumer<RunFaxes> call) {
    refused(what, made, IllegalStateException.class, call);
  }

  private static void refused(
      String what, Supplier<RunFaxes> made, Class<? extends Exception> due, Consumer<RunFaxes> call) {
    Check.test("refused: " + what, () -> refusedOnce(made, due, call));
  }

  private static void refusedOnce(
      Supplier<RunFaxes> made, Class<? extends Exception> due, Consumer<RunFaxes> call) {
    RunFaxes x = made.get();
    Class<?> got = null;
    try {
      call.accept(x);
    } catch (RuntimeException e) {
      got = e.getClass();
    }
    Check.same("the exception", got, due);
    Check.same("all behind it", Whole.of(x), Whole.of(made.get()));
  }

  /** Refused at the first value below, at the first one above, and far away on both sides. */
  private static void outside(String what, Supplier<RunFaxes> made, int least, int most,
      Class<? extends Exception> due, At call) {
    refused(what + " of " + (least - 1), made, due, x -> call.on(x, least - 1));
    refused(what + " of " + (most + 1), made, due, x -> call.on(x, most + 1));
    Check.test("refused: " + what + " far away", () -> {
      for (int value : FAR_BELOW) {
        refusedOnce(made, due, x -> call.on(x, Math.min(value, least - 1)));
      }
      for (int value : FAR_ABOVE) {
        refusedOnce(made, due, x -> call.on(x, value));
      }
    });
  }

  private static void outsideIndex(String what, Supplier<RunFaxes> made, int most, At call) {
    outside(what, made, 0, most, IndexOutOfBoundsException.class, call);
  }

  private static void outsideArgument(
      String what, Supplier<RunFaxes> made, int least, int most, At call) {
    outside(what, made, least, most, IllegalArgumentException.class, call);
  }

  // ---- one argument out of range

  private static void settings() {
    outsideArgument("promise 2: setWidth", Make::laden, 8, 32, RunFaxes::setWidth);
    outsideArgument("promise 2: setWidth, on a full page", Make::fullPage, 8, 32, RunFaxes::setWidth);
    // 280 would be 24, cut to a byte.
    argument("promise 2: setWidth of 280", Make::laden, x -> x.setWidth(280));
    outsideArgument("promise 6: setStyle", Make::laden, 0, 3, RunFaxes::setStyle);
  }

  private static void linesOfThePage() {
    At[] calls = {(x, line) -> x.setLine(line, 1), RunFaxes::pixelsOf, (x, line) -> x.isBlack(line, 0),
        RunFaxes::runsOf, RunFaxes::longestRun, (x, line) -> x.codeLength(line, 0),
        (x, line) -> x.codeLengthByCounting(line, 1), RunFaxes::modeOf, (x, line) -> x.checkOf(line, 2)};
    String[] names = {"promise 4: setLine", "promise 25: pixelsOf", "promise 26: isBlack",
        "promise 27: runsOf", "promise 28: longestRun", "promise 30: codeLength",
        "promise 31: codeLengthByCounting", "promise 32: modeOf", "promise 33: checkOf"};
    for (int i = 0; i < calls.length; i++) {
      At call = calls[i];
      index(names[i] + " of the line 0 without lines", RunFaxes::new, x -> call.on(x, 0));
      outsideIndex(names[i] + " with two lines", Make::laden, 1, call);
      outsideIndex(names[i] + " with ten lines", Make::fullPage, 9, call);
      index(names[i] + " of a line that was dropped", Refusals::dropped, x -> call.on(x, 9));
    }
  }

  private static RunFaxes dropped() {
    RunFaxes x = Make.fullPage();
    x.dropLast();
    return x;
  }

  private static void pixels() {
    for (int width = 8; width <= 32; width++) {
      int wide = width;
      long first = 1L << width;
      argument("promise 3: addLine with the bit " + width, () -> Make.wide(wide), x -> x.addLine(first));
      argument("promise 4: setLine with the bit " + width, () -> Make.page(wide, "#"),
          x -> x.setLine(0, first));
    }
    long[] wrong = {-1L, Long.MIN_VALUE, Long.MAX_VALUE, 1L << 32, 1L << 42, 1L << 62, (1L << 63) + 1,
        1025, 2047, -1024};
    for (long pixels : wrong) {
      argument("promise 3: addLine of " + pixels, Make::laden, x -> x.addLine(pixels));
      argument("promise 4: setLine of " + pixels, Make::laden, x -> x.setLine(1, pixels));
    }
  }

  private static void pixelsOfALine() {
    outsideIndex("promise 26: isBlack at the width 10", Make::laden, 9, (x, at) -> x.isBlack(0, at));
    outsideIndex("promise 26: isBlack at the width 8", Make::fullPage, 7, (x, at) -> x.isBlack(9, at));
    outsideIndex("promise 26: isBlack at the width 32", Make::longestSent, 31,
        (x, at) -> x.isBlack(9, at));
    index("promise 26: no such line and no such pixel", Make::laden, x -> x.isBlack(2, 10));
  }

  private static void modes() {
    outsideArgument("promise 30: codeLength, the mode", Make::laden, 0, 2, (x, mode) -> x.codeLength(1, mode));
    outsideArgument("promise 31: codeLengthByCounting, the mode", Make::laden, 0, 2,
        (x, mode) -> x.codeLengthByCounting(1, mode));
    outsideArgument("promise 33: checkOf, the mode", Make::laden, 0, 2, (x, mode) -> x.checkOf(1, mode));
  }

  private static RunFaxes full() {
    return Make.fullStream("");
  }

  private static void places() {
    At[] calls = {(x, place) -> x.replace(place, 7), RunFaxes::lose, RunFaxes::numberAt,
        (x, place) -> x.rightIfReplaced(place, 7)};
    String[] names = {"promise 8: replace", "promise 9: lose", "promise 36: numberAt",
        "promise 47: rightIfReplaced"};
    for (int i = 0; i < calls.length; i++) {
      At call = calls[i];
      index(names[i] + " at 0 of an empty stream", RunFaxes::new, x -> call.on(x, 0));
      outsideIndex(names[i] + " in 18 numbers", Make::laden, 17, call);
      outsideIndex(names[i] + " in 500 numbers", Refusals::full, 499, call);
      index(names[i] + " at a place that was lost", Refusals::shortened, x -> call.on(x, 17));
    }
    At gain = (x, place) -> x.gain(place, 7);
    outsideIndex("promise 10: gain into an empty stream", RunFaxes::new, 0, gain);
    outsideIndex("promise 10: gain into 18 numbers", Make::laden, 18, gain);
    outsideIndex("promise 10: gain into 500 numbers", Refusals::full, 500, gain);
  }

  private static RunFaxes shortened() {
    RunFaxes x = Make.laden();
    x.lose(3);
    return x;
  }

  private static void numbers() {
    outsideArgument("promise 8: replace, the number", Make::laden, 0, 15, (x, number) -> x.replace(17, number));
    outsideArgument("promise 10: gain, the number", Make::laden, 0, 15, (x, number) -> x.gain(18, number));
    outsideArgument("promise 47: rightIfReplaced, the number", Make::laden, 0, 15,
        (x, number) -> x.rightIfReplaced(0, number));
  }

  private static void received() {
    outsideIndex("promise 38: isReceived", Make::laden, 9, RunFaxes::isReceived);
    outsideIndex("promise 38: isReceived, of nothing", RunFaxes::new, 9, RunFaxes::isReceived);
    outsideIndex("promise 39: receivedPixels", Make::laden, 9, RunFaxes::receivedPixels);
    outsideIndex("promise 39: receivedPixels, of nothing", RunFaxes::new, 9, RunFaxes::receivedPixels);
    for (int line : new int[] {0, 9}) {
      state("promise 39: receivedPixels of " + line + ", of nothing", RunFaxes::new,
          x -> x.receivedPixels(line));
    }
    for (int line : new int[] {2, 9}) {
      state("promise 39: receivedPixels of " + line + ", which is not received", Make::laden,
          x -> x.receivedPixels(line));
    }
  }

  private static void errors() {
    At[] calls = {RunFaxes::errorPlace, RunFaxes::errorReason};
    String[] names = {"promise 43: errorPlace", "promise 44: errorReason"};
    for (int i = 0; i < calls.length; i++) {
      At call = calls[i];
      index(names[i] + " of 0 without errors", RunFaxes::new, x -> call.on(x, 0));
      outsideIndex(names[i] + " with one error", Make::laden, 0, call);
      outsideIndex(names[i] + " with 20 errors", Make::fullErrors, 19, call);
      index(names[i] + " behind a reading without errors", Refusals::mended, x -> call.on(x, 0));
    }
  }

  private static RunFaxes mended() {
    RunFaxes x = Make.laden();
    x.lose(17);
    x.receive();
    return x;
  }

  private static void texts() {
    outsideArgument("promise 12: append", Make::laden, 33, 126, RunFaxes::append);
    outsideArgument("promise 12: append to nothing", RunFaxes::new, 33, 126, RunFaxes::append);
    // 371 would be an "s", cut to a byte.
    argument("promise 12: append of 371", Make::laden, x -> x.append(371));
    state("promise 12: the 61st character, 33", Make::fullBuffer, x -> x.append(33));
    state("promise 12: the 61st character, 126", Make::fullBuffer, x -> x.append(126));
    argument("promise 15: play of nothing", RunFaxes::new, RunFaxes::play);
    argument("promise 15: play of a text begun", Make::laden, RunFaxes::play);
    String[] incomplete = {"+", "x", "x0", "x0=", "x499=", ";", "s;", "s;+", "s;x1", "s;x1=", "+.;", "s;;r", "y",
        "s;y", "+#;-x", "s".repeat(60), "s;".repeat(30)};
    for (String text : incomplete) {
      argument("promise 15: play of " + text, () -> typed(text), RunFaxes::play);
    }
  }

  private static RunFaxes typed(String text) {
    RunFaxes x = Make.laden();
    x.clearBuffer();
    Make.type(x, text);
    return x;
  }

  // ---- nothing there, or no room

  private static RunFaxes playedToTheEnd() {
    RunFaxes x = Make.laden();
    x.clearBuffer();
    Make.play(x, "r");
    return x;
  }

  private static RunFaxes allUndone() {
    RunFaxes x = Make.laden();
    for (int left = x.savedStates(); left > 0; left--) {
      x.undo();
    }
    return x;
  }

  private static void nothingThere() {
    state("promise 3: the eleventh line, white", Make::fullPage, x -> x.addLine(0));
    state("promise 3: the eleventh line, black", Make::fullPage, x -> x.addLine(255));
    state("promise 5: dropLast on a new object", RunFaxes::new, RunFaxes::dropLast);
    state("promise 5: dropLast behind setWidth", () -> Make.wide(24), RunFaxes::dropLast);
    state("promise 10: the 501st number, at the end", Refusals::full, x -> x.gain(500, 0));
    state("promise 10: the 501st number, ahead of all", Refusals::full, x -> x.gain(0, 15));
    state("promise 17: stoppedPart without play", RunFaxes::new, RunFaxes::stoppedPart);
    state("promise 17: stoppedPart behind play to the end", Refusals::playedToTheEnd,
        RunFaxes::stoppedPart);
    state("promise 18: undo on a new object", RunFaxes::new, RunFaxes::undo);
    state("promise 18: undo of the sixth state", Refusals::allUndone, RunFaxes::undo);
    state("promise 20: restore on a new object", RunFaxes::new, RunFaxes::restore);
    state("promise 20: restore without a snapshot", Make::fullPage, RunFaxes::restore);
  }

  // ---- several exceptions apply: the one that is named first

  private static void firstOfSeveral() {
    argument("promise 3: wrong pixels, and ten lines", Make::fullPage, x -> x.addLine(256));
    argument("promise 3: negative pixels, and ten lines", Make::fullPage, x -> x.addLine(-1));
    for (int line : new int[] {-1, 2}) {
      index("promise 4: no line " + line + ", and wrong pixels", Make::laden, x -> x.setLine(line, 1024));
    }
    for (int number : new int[] {-1, 16}) {
      index("promise 8: no place, and the number " + number, Make::laden, x -> x.replace(18, number));
      index("promise 8: no number, and the number " + number, RunFaxes::new, x -> x.replace(0, number));
      index("promise 10: no place, and the number " + number, Make::laden, x -> x.gain(19, number));
      index("promise 10: no place, the number " + number + ", and 500", Refusals::full,
          x -> x.gain(501, number));
      argument("promise 10: the number " + number + ", and 500", Refusals::full, x -> x.gain(500, number));
      index("promise 47: no place, and the number " + number, Make::laden,
          x -> x.rightIfReplaced(-1, number));
    }
    index("promise 10: no place, and 500", Refusals::full, x -> x.gain(-1, 0));
    for (int code : new int[] {32, 127}) {
      argument("promise 12: the code " + code + ", and 60 characters", Make::fullBuffer, x -> x.append(code));
    }
    for (int mode : new int[] {-1, 3}) {
      index("promise 30: no line, and the mode " + mode, Make::laden, x -> x.codeLength(2, mode));
      index("promise 31: no line, and the mode " + mode, Make::laden, x -> x.codeLengthByCounting(2, mode));
      index("promise 33: no line, and the mode " + mode, Make::laden, x -> x.checkOf(2, mode));
    }
    index("promise 39: no line of any page, and not received", RunFaxes::new, x -> x.receivedPixels(10));
  }
}
