/** Short ways to fill objects and to tell what is in them. */
final class Make {
  private Make() {
  }

  static RunFaxes wide(int width) {
    RunFaxes x = new RunFaxes();
    x.setWidth(width);
    return x;
  }

  /** The pixels of a row of "." and "#", told as a number. */
  static long pixels(String row) {
    long number = 0;
    for (int i = 0; i < row.length(); i++) {
      if (row.charAt(i) == '#') {
        number |= 1L << i;
      }
    }
    return number;
  }

  static RunFaxes page(int width, String... rows) {
    RunFaxes x = wide(width);
    for (String row : rows) {
      x.addLine(pixels(row));
    }
    return x;
  }

  static void type(RunFaxes x, String text) {
    for (char c : text.toCharArray()) {
      x.append(c);
    }
  }

  static int play(RunFaxes x, String text) {
    type(x, text);
    return x.play();
  }

  /** Puts numbers, told as hexadecimal digits, behind the stream; blanks are left out. */
  static void feed(RunFaxes x, String digits) {
    for (char c : digits.replace(" ", "").toCharArray()) {
      x.gain(x.streamLength(), Character.digit(c, 16));
    }
  }

  static RunFaxes fed(int width, String digits) {
    RunFaxes x = wide(width);
    feed(x, digits);
    return x;
  }

  static String stream(RunFaxes x) {
    StringBuilder digits = new StringBuilder();
    for (int place = 0; place < x.streamLength(); place++) {
      digits.append(Character.forDigit(x.numberAt(place), 16));
    }
    return digits.toString();
  }

  static String rows(RunFaxes x) {
    StringBuilder rows = new StringBuilder();
    for (int line = 0; line < x.lines(); line++) {
      rows.append(line == 0 ? "" : "/");
      for (int pixel = 0; pixel < x.width(); pixel++) {
        rows.append(x.isBlack(line, pixel) ? '#' : '.');
      }
    }
    return rows.toString();
  }

  /** The errors, each as its place and its reason, "12:4 30:8". */
  static String errors(RunFaxes x) {
    StringBuilder errors = new StringBuilder();
    for (int i = 0; i < x.errors(); i++) {
      errors.append(i == 0 ? "" : " ").append(x.errorPlace(i)).append(':').append(x.errorReason(i));
    }
    return errors.toString();
  }

  /** The numbers of the lines that are received, one behind the other. */
  static String receivedLines(RunFaxes x) {
    StringBuilder lines = new StringBuilder();
    for (int line = 0; line < 10; line++) {
      lines.append(x.isReceived(line) ? String.valueOf(line) : "");
    }
    return lines.toString();
  }
}
