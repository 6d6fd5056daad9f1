/** Short ways to fill objects and to tell what is in them. */
final class Make {
  private Make() {
  }

  static RunFaxes wide(int width) {
    RunFaxes x = new RunFaxes();
    x.setWidth(width);
    return x;
  }

  /** The pixels of a row of "." and "#", told as a number. */
  static long pixels(String row) {
    long number = 0;
    for (int i = 0; i < row.length(); i++) {
      if (row.charAt(i) == '#') {
        number |= 1L << i;
      }
    }
    return number;
  }

  static RunFaxes page(int width, String... rows) {
    RunFaxes x = wide(width);
    for (String row : rows) {
      x.addLine(pixels(row));
    }
    return x;
  }

  static void type(RunFaxes x, String text) {
    for (char c : text.toCharArray()) {
      x.append(c);
    }
  }

  static int play(RunFaxes x, String text) {
    type(x, text);
    return x.play();
  }

  /** Puts numbers, told as hexadecimal digits, behind the stream; blanks are left out. */
  static void feed(RunFaxes x, String digits) {
    int length = x.streamLength();
    for (char c : digits.replace(" ", "").toCharArray()) {
      x.gain(length, Character.digit(c, 16));
      length++;
    }
  }

  static RunFaxes fed(int width, String digits) {
    RunFaxes x = wide(width);
    feed(x, digits);
    return x;
  }

  static String stream(RunFaxes x) {
    StringBuilder digits = new StringBuilder();
    int length = x.streamLength();
    for (int place = 0; place < length; place++) {
      digits.append(Character.forDigit(x.numberAt(place), 16));
    }
    return digits.toString();
  }

  static String rows(RunFaxes x) {
    StringBuilder rows = new StringBuilder();
    for (int line = 0; line < x.lines(); line++) {
      rows.append(line == 0 ? "" : "/");
      for (int pixel = 0; pixel < x.width(); pixel++) {
        rows.append(x.isBlack(line, pixel) ? '#' : '.');
      }
    }
    return rows.toString();
  }

  /** The errors, each as its place and its reason, "12:4 30:8". */
  static String errors(RunFaxes x) {
    StringBuilder errors = new StringBuilder();
    for (int i = 0; i < x.errors(); i++) {
      errors.append(i == 0 ? "" : " ").append(x.errorPlace(i)).append(':').append(x.errorReason(i));
    }
    return errors.toString();
  }

  /** The numbers of the lines that are received, one behind the other. */
  static String receivedLines(RunFaxes x) {
    StringBuilder lines = new StringBuilder();
    for (int line = 0; line < 10; line++) {
      lines.append(x.isReceived(line) ? String.valueOf(line) : "");
    }
    return lines.toString();
  }

  /** Makes a reading, and tells the numbers of the lines that are received, and the errors. */
  static String read(int width, String digits) {
    RunFaxes x = fed(width, digits);
    int count = x.receive();
    Check.same("received", x.received(), count);
    return receivedLines(x) + "|" + errors(x);
  }

  // ---- objects that are full; each in far fewer than 512 calls

  /** A page of 10 lines of the width 8, the pixel n being black in the line n, as far as it goes. */
  static RunFaxes fullPage() {
    RunFaxes x = wide(8);
    for (int line = 0; line < 10; line++) {
      x.addLine(1L << line & 255);
    }
    return x;
  }

  /** The page with the longest code: 380 numbers in the stream, 10 lines of 32 pixels in turns. */
  static RunFaxes longestSent() {
    RunFaxes x = wide(32);
    x.setStyle(0);
    for (int line = 0; line < 10; line++) {
      x.addLine(0x55555555L);
    }
    x.send();
    return x;
  }

  /** A stream of 500 numbers: the longest page, zeros, and at the end these digits. */
  static RunFaxes fullStream(String digits) {
    RunFaxes x = longestSent();
    for (int length = 380; length < 500 - digits.length(); length++) {
      x.gain(length, 0);
    }
    feed(x, digits);
    return x;
  }

  static RunFaxes fullBuffer() {
    RunFaxes x = wide(8);
    type(x, "+#" + ";s".repeat(29));
    return x;
  }

  /** 20 errors of the reason 2, at the places 0, 3 and so on. */
  static RunFaxes fullErrors() {
    RunFaxes x = fed(8, "f0a".repeat(20));
    x.receive();
    return x;
  }

  /**
   * Something of all: two lines of the width 10, 18 numbers, lines received, an error, a stop, five
   * saved states, a snapshot, a text begun.
   */
  static RunFaxes laden() {
    RunFaxes x = wide(10);
    x.addLine(3);
    x.keep();
    x.setStyle(1);
    x.addLine(512);
    x.send();
    feed(x, "f0");
    x.receive();
    play(x, "r;x499=1");
    type(x, "s;");
    return x;
  }
}
