import java.util.ArrayDeque;
import java.util.ArrayList;
import java.util.Deque;
import java.util.List;
import java.util.Map;
import java.util.TreeMap;
import java.util.regex.Matcher;
import java.util.regex.Pattern;

/**
 * The document a second time, with the Java library and without a thought for room: lines as texts
 * of "." and "#", codes as texts of hexadecimal digits, the grammar as a regular expression.
 */
final class Oracle {
  private static final String PART =
      "(?:\\+[.#]{1,32}|-|s|r|x(?:0|[1-9]|[1-9][0-9]|[1-4][0-9][0-9])=(?:[0-9]|1[0-5]))";
  private static final Pattern PAGE = Pattern.compile(PART + "(?:;" + PART + ")*");

  private static final class State {
    int width = 24;
    int style = 3;
    List<String> page = new ArrayList<>();
    String stream = "";
    Map<Integer, String> received = new TreeMap<>();
    List<int[]> errors = new ArrayList<>();
    int stop = -1;

    State copy() {
      State copy = new State();
      copy.width = width;
      copy.style = style;
      copy.page = new ArrayList<>(page);
      copy.stream = stream;
      copy.received = new TreeMap<>(received);
      copy.errors = new ArrayList<>(errors);
      copy.stop = stop;
      return copy;
    }
  }

  private static final class Failure extends Exception {
    private static final long serialVersionUID = 1L;
    final int reason;

    Failure(int reason) {
      this.reason = reason;
    }
  }

  private State now = new State();
  private State kept = null;
  private final Deque<State> saved = new ArrayDeque<>();
  private String buffer = "";

  // ---- the page

  private String row(long pixels) {
    if (pixels < 0 || pixels >= 1L << now.width) {
      throw new IllegalArgumentException();
    }
    StringBuilder row = new StringBuilder();
    for (int x = 0; x < now.width; x++) {
      row.append((pixels & 1L << x) != 0 ? '#' : '.');
    }
    return row.toString();
  }

  private void save() {
    saved.addLast(now.copy());
    if (saved.size() > 5) {
      saved.removeFirst();
    }
  }

  private static void index(boolean fine) {
    if (!fine) {
      throw new IndexOutOfBoundsException();
    }
  }

  private static void argument(boolean fine) {
    if (!fine) {
      throw new IllegalArgumentException();
    }
  }

  private static void state(boolean fine) {
    if (!fine) {
      throw new IllegalStateException();
    }
  }

  private static boolean in(int value, int least, int most) {
    return least <= value && value <= most;
  }

  long setWidth(int pixels) {
    argument(in(pixels, 8, 32));
    save();
    State fresh = new State();
    fresh.width = pixels;
    fresh.style = now.style;
    fresh.stop = now.stop;
    int before = now.width;
    now = fresh;
    return before;
  }

  long addLine(long pixels) {
    String row = row(pixels);
    state(now.page.size() < 10);
    save();
    now.page.add(row);
    return now.page.size() - 1;
  }

  long setLine(int line, long pixels) {
    index(in(line, 0, now.page.size() - 1));
    String row = row(pixels);
    save();
    return Make.pixels(now.page.set(line, row));
  }

  long dropLast() {
    state(!now.page.isEmpty());
    save();
    now.page.remove(now.page.size() - 1);
    return now.page.size();
  }

  long setStyle(int style) {
    argument(in(style, 0, 3));
    save();
    int before = now.style;
    now.style = style;
    return before;
  }

  // ---- codes

  private static List<Integer> runs(String row) {
    List<Integer> runs = new ArrayList<>();
    Matcher parts = Pattern.compile("\\.+|#+").matcher(row);
    if (row.startsWith("#")) {
      runs.add(0);
    }
    while (parts.find()) {
      runs.add(parts.group().length());
    }
    return runs;
  }

  private static String unlike(String one, String other) {
    StringBuilder row = new StringBuilder();
    for (int x = 0; x < one.length(); x++) {
      row.append(one.charAt(x) == other.charAt(x) ? '.' : '#');
    }
    return row.toString();
  }

  private List<Integer> kernel(int line, int mode) {
    List<Integer> kernel = new ArrayList<>();
    String row = now.page.get(line);
    if (mode == 1) {
      String filled = row + "...";
      for (int x = 0; x < row.length(); x += 4) {
        String four = filled.substring(x, x + 4).replace('.', '0').replace('#', '1');
        kernel.add(Integer.parseInt(four, 2));
      }
      return kernel;
    }
    String above = line > 0 ? now.page.get(line - 1) : ".".repeat(now.width);
    for (int run : runs(mode == 2 ? unlike(row, above) : row)) {
      kernel.addAll(run <= 13 ? List.of(run) : List.of(14, run / 16, run % 16));
    }
    return kernel;
  }

  private int check(int line, int mode) {
    return (line + mode + kernel(line, mode).stream().mapToInt(n -> n).sum()) % 15;
  }

  private String code(int line, int mode) {
    StringBuilder code = new StringBuilder("f0");
    code.append(Integer.toHexString(line)).append(Integer.toHexString(mode));
    for (int number : kernel(line, mode)) {
      code.append(number == 15 ? "f1" : Integer.toHexString(number));
    }
    return code.append(Integer.toHexString(check(line, mode))).toString();
  }

  private int mode(int line) {
    if (now.style < 3) {
      return now.style;
    }
    int best = 0;
    for (int mode = 1; mode < 3; mode++) {
      best = code(line, mode).length() < code(line, best).length() ? mode : best;
    }
    return best;
  }

  private String codes() {
    StringBuilder codes = new StringBuilder();
    for (int line = 0; line < now.page.size(); line++) {
      codes.append(code(line, mode(line)));
    }
    return codes.toString();
  }

  // ---- the stream

  long send() {
    save();
    now.stream = codes();
    return now.stream.length();
  }

  private String replaced(int place, int number) {
    return now.stream.substring(0, place) + Integer.toHexString(number) + now.stream.substring(place + 1);
  }

  private int number(int place) {
    return Character.digit(now.stream.charAt(place), 16);
  }

  long replace(int place, int number) {
    index(in(place, 0, now.stream.length() - 1));
    argument(in(number, 0, 15));
    save();
    int before = number(place);
    now.stream = replaced(place, number);
    return before;
  }

  long lose(int place) {
    index(in(place, 0, now.stream.length() - 1));
    save();
    int lost = number(place);
    now.stream = now.stream.substring(0, place) + now.stream.substring(place + 1);
    return lost;
  }

  long gain(int place, int number) {
    index(in(place, 0, now.stream.length()));
    argument(in(number, 0, 15));
    state(now.stream.length() < 500);
    save();
    now.stream = now.stream.substring(0, place) + Integer.toHexString(number) + now.stream.substring(place);
    return now.stream.length();
  }

  // ---- reading

  private final class Reading {
    final Map<Integer, String> lines = new TreeMap<>();
    final List<int[]> errors = new ArrayList<>();
    final String stream;
    int at = 0;
    int sum = 0;

    Reading(String stream) {
      this.stream = stream;
      for (int marker = stream.indexOf("f0"); marker >= 0; marker = stream.indexOf("f0", at)) {
        at = marker + 2;
        try {
          readCode();
        } catch (Failure failure) {
          if (errors.size() < 20) {
            errors.add(new int[] {marker, failure.reason});
          }
          at = marker + 2;
        }
      }
    }

    private int plain() throws Failure {
      if (at == stream.length()) {
        throw new Failure(1);
      }
      return Character.digit(stream.charAt(at++), 16);
    }

    private int inKernel() throws Failure {
      int number = plain();
      if (number == 15) {
        int behind = plain();
        if (behind == 0) {
          throw new Failure(4);
        }
        if (behind != 1) {
          throw new Failure(5);
        }
      }
      sum += number;
      return number;
    }

    private void readCode() throws Failure {
      int line = plain();
      if (line > 9) {
        throw new Failure(2);
      }
      int mode = plain();
      if (mode > 2) {
        throw new Failure(3);
      }
      if (mode == 2 && line > 0 && !lines.containsKey(line - 1)) {
        throw new Failure(7);
      }
      sum = line + mode;
      String row = mode == 1 ? rawRow() : rowOfRuns();
      if (plain() != sum % 15) {
        throw new Failure(8);
      }
      lines.put(line, mode == 2 && line > 0 ? unlike(row, lines.get(line - 1)) : row);
    }

    private String rawRow() throws Failure {
      StringBuilder row = new StringBuilder();
      while (row.length() < now.width) {
        String bits = Integer.toBinaryString(16 + inKernel()).substring(1);
        row.append(bits.replace('0', '.').replace('1', '#'));
        if (row.length() > now.width && row.substring(now.width).contains("#")) {
          throw new Failure(6);
        }
      }
      return row.substring(0, now.width);
    }

    private String rowOfRuns() throws Failure {
      StringBuilder row = new StringBuilder();
      String colour = ".";
      while (row.length() < now.width) {
        int run = inKernel();
        if (run == 15) {
          throw new Failure(6);
        }
        if (run == 14) {
          int high = inKernel();
          run = 16 * high + inKernel();
        }
        row.append(colour.repeat(run));
        if (row.length() > now.width) {
          throw new Failure(6);
        }
        colour = colour.equals(".") ? "#" : ".";
      }
      return row.toString();
    }

    int right() {
      return rightOf(lines);
    }
  }

  private int rightOf(Map<Integer, String> lines) {
    int right = 0;
    for (int line = 0; line < now.page.size(); line++) {
      right += now.page.get(line).equals(lines.get(line)) ? 1 : 0;
    }
    return right;
  }

  private void read() {
    Reading reading = new Reading(now.stream);
    now.received = reading.lines;
    now.errors = reading.errors;
  }

  long receive() {
    save();
    read();
    return now.received.size();
  }

  // ---- texts

  long append(int code) {
    argument(in(code, 33, 126));
    state(buffer.length() < 60);
    buffer += (char) code;
    return buffer.length();
  }

  long clearBuffer() {
    int before = buffer.length();
    buffer = "";
    return before;
  }

  long firstError() {
    for (int end = 1; end <= buffer.length(); end++) {
      Matcher matcher = PAGE.matcher(buffer.substring(0, end));
      if (!matcher.matches() && !matcher.hitEnd()) {
        return end - 1;
      }
    }
    return buffer.length();
  }

  long play() {
    argument(PAGE.matcher(buffer).matches());
    save();
    String[] parts = buffer.split(";");
    int done = 0;
    while (done < parts.length && did(parts[done])) {
      done++;
    }
    buffer = "";
    now.stop = done < parts.length ? done : -1;
    return done;
  }

  private boolean did(String part) {
    switch (part.substring(0, 1)) {
      case "+":
        if (part.length() - 1 > now.width || now.page.size() == 10) {
          return false;
        }
        now.page.add((part.substring(1) + ".".repeat(32)).substring(0, now.width));
        return true;
      case "-":
        return !now.page.isEmpty() && now.page.remove(now.page.size() - 1) != null;
      case "s":
        now.stream = codes();
        return true;
      case "r":
        read();
        return true;
      default:
        String[] sides = part.substring(1).split("=");
        int place = Integer.parseInt(sides[0]);
        if (place >= now.stream.length()) {
          return false;
        }
        now.stream = replaced(place, Integer.parseInt(sides[1]));
        return true;
    }
  }

  long hasStopped() {
    return now.stop >= 0 ? 1 : 0;
  }

  long stoppedPart() {
    state(now.stop >= 0);
    return now.stop;
  }

  // ---- undo, the snapshot

  long undo() {
    state(!saved.isEmpty());
    now = saved.removeLast();
    return saved.size();
  }

  long keep() {
    kept = now.copy();
    return now.page.size();
  }

  long restore() {
    state(kept != null);
    save();
    now = kept.copy();
    return now.page.size();
  }

  long savedStates() {
    return saved.size();
  }

  // ---- looks

  long width() {
    return now.width;
  }

  long lines() {
    return now.page.size();
  }

  long style() {
    return now.style;
  }

  private String line(int line) {
    index(in(line, 0, now.page.size() - 1));
    return now.page.get(line);
  }

  long pixelsOf(int line) {
    return Make.pixels(line(line));
  }

  long isBlack(int line, int pixel) {
    String row = line(line);
    index(in(pixel, 0, now.width - 1));
    return row.charAt(pixel) == '#' ? 1 : 0;
  }

  long runsOf(int line) {
    return runs(line(line)).size();
  }

  long longestRun(int line) {
    return runs(line(line)).stream().mapToInt(n -> n).max().getAsInt();
  }

  long blackPixels() {
    return String.join("", now.page).chars().filter(c -> c == '#').count();
  }

  long codeLength(int line, int mode) {
    line(line);
    argument(in(mode, 0, 2));
    return code(line, mode).length();
  }

  long codeLengthByCounting(int line, int mode) {
    return codeLength(line, mode);
  }

  long modeOf(int line) {
    line(line);
    return mode(line);
  }

  long checkOf(int line, int mode) {
    line(line);
    argument(in(mode, 0, 2));
    return check(line, mode);
  }

  long wouldSend() {
    return codes().length();
  }

  long streamLength() {
    return now.stream.length();
  }

  long numberAt(int place) {
    index(in(place, 0, now.stream.length() - 1));
    return number(place);
  }

  long markers() {
    return (now.stream + ".").split("f0", -1).length - 1;
  }

  long isReceived(int line) {
    index(in(line, 0, 9));
    return now.received.containsKey(line) ? 1 : 0;
  }

  long receivedPixels(int line) {
    index(in(line, 0, 9));
    state(now.received.containsKey(line));
    return Make.pixels(now.received.get(line));
  }

  long received() {
    return now.received.size();
  }

  long right() {
    return rightOf(now.received);
  }

  long errors() {
    return now.errors.size();
  }

  long errorPlace(int error) {
    index(in(error, 0, now.errors.size() - 1));
    return now.errors.get(error)[0];
  }

  long errorReason(int error) {
    index(in(error, 0, now.errors.size() - 1));
    return now.errors.get(error)[1];
  }

  long wouldReceive() {
    return new Reading(now.stream).lines.size();
  }

  long wouldBeRight() {
    return new Reading(now.stream).right();
  }

  long rightIfReplaced(int place, int number) {
    index(in(place, 0, now.stream.length() - 1));
    argument(in(number, 0, 15));
    return new Reading(replaced(place, number)).right();
  }

  long codedShare() {
    double share = now.page.isEmpty() ? 0.0 : 4.0 * wouldSend() / (now.width * now.page.size());
    return Double.doubleToLongBits(share);
  }

  long digest() {
    long[] looks = {width(), lines(), style(), blackPixels(), wouldSend(), streamLength(), markers(),
        received(), right(), errors(), wouldReceive(), wouldBeRight(), savedStates()};
    List<Long> values = new ArrayList<>();
    for (long look : looks) {
      values.add(look);
    }
    for (int line = 0; line < lines(); line++) {
      values.addAll(List.of(pixelsOf(line), runsOf(line), longestRun(line), modeOf(line)));
      for (int mode = 0; mode < 3; mode++) {
        values.addAll(List.of(codeLength(line, mode), codeLength(line, mode), checkOf(line, mode)));
      }
    }
    now.stream.chars().forEach(c -> values.add((long) Character.digit(c, 16)));
    for (int line = 0; line < 10; line++) {
      values.add(isReceived(line));
      if (now.received.containsKey(line)) {
        values.add(receivedPixels(line));
      }
    }
    for (int[] error : now.errors) {
      values.addAll(List.of((long) error[0], (long) error[1]));
    }
    values.add(hasStopped());
    if (now.stop >= 0) {
      values.add((long) now.stop);
    }
    values.add(codedShare());
    values.add((long) buffer.length());
    buffer.chars().forEach(c -> values.add((long) c));
    return values.stream().reduce(4409L, (hash, value) -> 31 * hash + value);
  }
}
