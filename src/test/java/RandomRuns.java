import java.util.function.LongSupplier;

/** Long runs of calls by a fixed sequence of numbers, on the class and on the oracle at once. */
final class RandomRuns {
  private static final int KINDS = 6;
  private static final int RUNS_OF_A_KIND = 600;
  private static final int FULL = 5;
  // What an object answers to later calls is free.
  private static final int MOST_CALLS = 512;

  private long seed;
  private final RunFaxes x = new RunFaxes();
  private final Oracle oracle = new Oracle();
  private final int[] reasons;
  private int calls = 0;

  private RandomRuns(long seed, int[] reasons) {
    this.seed = seed;
    this.reasons = reasons;
  }

  static void run() {
    int[] reasons = new int[9];
    for (int kind = 0; kind < KINDS; kind++) {
      int dealt = kind;
      Check.test("runs of calls as the oracle tells, kind " + kind, () -> runsOf(dealt, reasons));
    }
    Check.test("the runs of calls meet every reason", () -> {
      for (int reason = 1; reason <= 8; reason++) {
        Check.holds("the reason " + reason, reasons[reason] > 20);
      }
    });
  }

  private static void runsOf(int kind, int[] reasons) {
    for (int run = 0; run < RUNS_OF_A_KIND; run++) {
      new RandomRuns(1000L * run + kind, reasons).play(kind);
    }
  }

  private int below(int bound) {
    seed = seed * 6364136223846793005L + 1442695040888963407L;
    return (int) ((seed >>> 33) % bound);
  }

  private void play(int kind) {
    if (kind == FULL) {
      nearlyFull();
    } else if (kind != 0) {
      int width = 8 + below(25);
      both("setWidth " + width, () -> x.setWidth(width), () -> oracle.setWidth(width));
    }
    int betweenDigests = 1 + below(12);
    int looksFrom = below(MOST_CALLS);
    boolean looked = false;
    while (calls < MOST_CALLS) {
      deal(kind);
      if (below(betweenDigests) == 0) {
        both("digest", x::digest, oracle::digest);
      }
      if (!looked && calls >= looksFrom) {
        looks();
        looked = true;
      }
    }
  }

  /** The answer, or the exception's name; both must be the same. All calls of x come through here. */
  private void both(String what, LongSupplier mine, LongSupplier due) {
    if (calls < MOST_CALLS) {
      calls++;
      Check.same(what, answer(mine), answer(due));
    }
  }

  private static String answer(LongSupplier call) {
    try {
      return String.valueOf(call.getAsLong());
    } catch (IllegalArgumentException | IllegalStateException | IndexOutOfBoundsException e) {
      return e.getClass().getSimpleName();
    }
  }

  private int width() {
    return (int) oracle.width();
  }

  private int lines() {
    return (int) oracle.lines();
  }

  private int streamLength() {
    return (int) oracle.streamLength();
  }

  private static long bit(boolean value) {
    return value ? 1 : 0;
  }

  private void deal(int kind) {
    switch (kind) {
      case 0:
        anyCall();
        break;
      case 1:
        pageThenDamage();
        break;
      case 2:
        madeStream();
        break;
      case 3:
        texts();
        break;
      case FULL:
        if (below(3) == 0) {
          anyCall();
        } else {
          damage();
        }
        break;
      default:
        if (below(4) == 0) {
          anyCall();
        } else if (below(2) == 0) {
          pageThenDamage();
        } else {
          madeStream();
        }
    }
  }

  // ---- single calls

  private void anyCall() {
    switch (below(16)) {
      case 0:
        if (below(6) == 0) {
          int width = 6 + below(29);
          both("setWidth", () -> x.setWidth(width), () -> oracle.setWidth(width));
        }
        break;
      case 1:
      case 2:
        addLine();
        break;
      case 3:
        setLine();
        break;
      case 4:
        both("dropLast", x::dropLast, oracle::dropLast);
        break;
      case 5:
        int style = below(6) - 1;
        both("setStyle", () -> x.setStyle(style), () -> oracle.setStyle(style));
        break;
      case 6:
        both("send", x::send, oracle::send);
        break;
      case 7:
      case 8:
        damage();
        break;
      case 9:
        both("receive", x::receive, oracle::receive);
        break;
      case 10:
      case 11:
        texts();
        break;
      case 12:
        both("undo", x::undo, oracle::undo);
        break;
      case 13:
        both("keep", x::keep, oracle::keep);
        break;
      case 14:
        both("restore", x::restore, oracle::restore);
        break;
      default:
        gain(streamLength(), below(17));
    }
  }

  private long somePixels() {
    long all = (1L << width()) - 1;
    long some = (long) below(1 << 16) << 16 | below(1 << 16);
    switch (below(7)) {
      case 0:
        return some & all;
      case 1:
        return 0;
      case 2:
        return all;
      case 3:
        return (1L << below(width())) - 1;
      case 4:
        return all & ~((1L << below(width())) - 1);
      case 5:
        return (lines() > 0 ? oracle.pixelsOf(lines() - 1) : 0) ^ 1L << below(width());
      default:
        return below(8) == 0 ? -some : below(8) == 0 ? all + 1 : 0x5555555555L & all;
    }
  }

  private void addLine() {
    long pixels = somePixels();
    both("addLine " + pixels, () -> x.addLine(pixels), () -> oracle.addLine(pixels));
  }

  private void setLine() {
    int line = below(12) - 1;
    long pixels = somePixels();
    both("setLine", () -> x.setLine(line, pixels), () -> oracle.setLine(line, pixels));
  }

  private void gain(int place, int number) {
    both("gain", () -> x.gain(place, number), () -> oracle.gain(place, number));
  }

  private void damage() {
    int place = below(streamLength() + 3) - 1;
    int number = below(3) == 0 ? below(18) - 1 : new int[] {0, 1, 14, 15}[below(4)];
    switch (below(3)) {
      case 0:
        both("replace", () -> x.replace(place, number), () -> oracle.replace(place, number));
        break;
      case 1:
        both("lose", () -> x.lose(place), () -> oracle.lose(place));
        break;
      default:
        gain(place, number);
    }
    both("rightIfReplaced", () -> x.rightIfReplaced(place, number),
        () -> oracle.rightIfReplaced(place, number));
  }

  // ---- kinds of runs

  /** A page of ten lines with the longest code, sent, and a stream of nearly 500 numbers. */
  private void nearlyFull() {
    both("setWidth", () -> x.setWidth(32), () -> oracle.setWidth(32));
    both("setStyle", () -> x.setStyle(0), () -> oracle.setStyle(0));
    for (int line = 0; line < 10; line++) {
      both("addLine", () -> x.addLine(0x55555555L), () -> oracle.addLine(0x55555555L));
    }
    both("send", x::send, oracle::send);
    int most = 490 + below(11);
    while (streamLength() < most) {
      put(new int[] {0, 1, 2, 14, 15, 15}[below(6)]);
    }
  }

  private void pageThenDamage() {
    switch (below(8)) {
      case 0:
        if (lines() > 7 && below(2) == 0) {
          both("dropLast", x::dropLast, oracle::dropLast);
        }
        addLine();
        break;
      case 1:
        int style = below(4);
        both("setStyle", () -> x.setStyle(style), () -> oracle.setStyle(style));
        both("send", x::send, oracle::send);
        break;
      case 2:
        both("receive", x::receive, oracle::receive);
        countReasons();
        break;
      default:
        damage();
    }
  }

  /** Codes put together number by number, most of them nearly right. */
  private void madeStream() {
    if (streamLength() > 300 && below(3) == 0) {
      int width = width();
      both("setWidth", () -> x.setWidth(width), () -> oracle.setWidth(width));
    }
    put(15);
    put(0);
    int line = below(9) == 0 ? below(16) : below(3);
    int mode = below(9) == 0 ? below(16) : below(3);
    put(line);
    put(mode);
    int sum = line + mode;
    int numbers = below(12);
    int told = 0;
    for (int i = 0; i < numbers && told < width(); i++) {
      int number = below(7) == 0 ? below(16) : below(5);
      put(number);
      if (number == 15) {
        put(below(5) == 0 ? below(16) : 1);
      }
      sum += number;
      told += number;
    }
    int rest = width() - told;
    if (rest > 0 && rest < 14 && below(4) > 0) {
      put(rest);
      sum += rest;
    }
    put(below(6) == 0 ? below(16) : sum % 15);
    both("receive", x::receive, oracle::receive);
    countReasons();
  }

  private void put(int number) {
    gain(streamLength(), number);
  }

  private void countReasons() {
    for (int i = 0; i < oracle.errors(); i++) {
      reasons[(int) oracle.errorReason(i)]++;
    }
  }

  private void texts() {
    if (below(12) == 0) {
      both("clearBuffer", x::clearBuffer, oracle::clearBuffer);
    }
    int parts = 1 + below(5);
    for (int part = 0; part < parts; part++) {
      type(part == 0 ? "" : ";");
      type(somePart());
    }
    both("firstError", x::firstError, oracle::firstError);
    both("play", x::play, oracle::play);
    if (below(2) == 0) {
      both("clearBuffer", x::clearBuffer, oracle::clearBuffer);
    }
  }

  private String somePart() {
    switch (below(7)) {
      case 0:
      case 1:
        StringBuilder row = new StringBuilder("+");
        int pixels = below(3) == 0 ? below(35) : width() - 2 + below(4);
        for (int i = 0; i < pixels; i++) {
          row.append(below(3) == 0 ? '#' : '.');
        }
        return row.toString();
      case 2:
        return "-";
      case 3:
        return "s";
      case 4:
        return "r";
      case 5:
        int place = below(4) == 0 ? below(505) : below(Math.max(1, streamLength()));
        return "x" + place + "=" + (below(9) == 0 ? below(20) : below(16));
      default:
        String signs = "+-srx=;.#0123456789~";
        StringBuilder any = new StringBuilder();
        for (int i = below(5); i >= 0; i--) {
          any.append(signs.charAt(below(signs.length())));
        }
        return below(4) == 0 ? any.toString() : "s";
    }
  }

  private void type(String text) {
    for (char c : text.toCharArray()) {
      both("append", () -> x.append(c), () -> oracle.append(c));
    }
    if (below(40) == 0) {
      int code = below(100) + 30;
      both("append", () -> x.append(code), () -> oracle.append(code));
    }
  }

  // ---- every look

  private void looks() {
    both("width", x::width, oracle::width);
    both("lines", x::lines, oracle::lines);
    both("style", x::style, oracle::style);
    both("blackPixels", x::blackPixels, oracle::blackPixels);
    both("wouldSend", x::wouldSend, oracle::wouldSend);
    both("streamLength", x::streamLength, oracle::streamLength);
    both("markers", x::markers, oracle::markers);
    both("received", x::received, oracle::received);
    both("right", x::right, oracle::right);
    both("errors", x::errors, oracle::errors);
    both("wouldReceive", x::wouldReceive, oracle::wouldReceive);
    both("wouldBeRight", x::wouldBeRight, oracle::wouldBeRight);
    both("savedStates", x::savedStates, oracle::savedStates);
    both("hasStopped", () -> bit(x.hasStopped()), oracle::hasStopped);
    both("stoppedPart", x::stoppedPart, oracle::stoppedPart);
    both("firstError", x::firstError, oracle::firstError);
    both("codedShare", () -> Double.doubleToLongBits(x.codedShare()), oracle::codedShare);
    for (int i = -1; i <= 10; i++) {
      looksAt(i);
    }
    int place = below(streamLength() + 2) - 1;
    both("numberAt", () -> x.numberAt(place), () -> oracle.numberAt(place));
    int error = below(22) - 1;
    both("errorPlace", () -> x.errorPlace(error), () -> oracle.errorPlace(error));
    both("errorReason", () -> x.errorReason(error), () -> oracle.errorReason(error));
  }

  private void looksAt(int line) {
    int pixel = below(35) - 1;
    int mode = below(5) - 1;
    both("pixelsOf", () -> x.pixelsOf(line), () -> oracle.pixelsOf(line));
    both("isBlack", () -> bit(x.isBlack(line, pixel)), () -> oracle.isBlack(line, pixel));
    both("runsOf", () -> x.runsOf(line), () -> oracle.runsOf(line));
    both("longestRun", () -> x.longestRun(line), () -> oracle.longestRun(line));
    both("modeOf", () -> x.modeOf(line), () -> oracle.modeOf(line));
    both("codeLength", () -> x.codeLength(line, mode), () -> oracle.codeLength(line, mode));
    both("codeLengthByCounting", () -> x.codeLengthByCounting(line, mode),
        () -> oracle.codeLengthByCounting(line, mode));
    both("checkOf", () -> x.checkOf(line, mode), () -> oracle.checkOf(line, mode));
    both("isReceived", () -> bit(x.isReceived(line)), () -> oracle.isReceived(line));
    both("receivedPixels", () -> x.receivedPixels(line), () -> oracle.receivedPixels(line));
  }
}
