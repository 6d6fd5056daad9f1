/** Fax from a submarine: pages, their codes, the damaged stream, and what a reading brings. */
public final class RunFaxes {
  private static final int MIN_WIDTH = 8;
  private static final int MAX_WIDTH = 32;
  private static final int FIRST_WIDTH = 24;
  private static final int MAX_LINES = 10;

  private static final int BY_RUNS = 0;
  private static final int RAW = 1;
  private static final int DIFFERENCES = 2;
  private static final int MODES = 3;
  private static final int SHORTEST = 3;

  private static final int MAX_NUMBER = 15;
  private static final int MARK = 15;
  private static final int MARK_END = 0;
  private static final int ESCAPED = 1;
  private static final int LONG_RUN = 14;
  private static final int CHECK_BASE = 15;
  private static final int AROUND_KERNEL = 5;
  // 32 pixels in turns, the first one black, are 33 runs; with longer runs a kernel is shorter.
  private static final int MAX_KERNEL = MAX_WIDTH + 1;
  // Room for an escape behind each number of the kernel, which no line needs.
  private static final int MAX_CODE = AROUND_KERNEL + 2 * MAX_KERNEL;

  private static final int MAX_STREAM = 500;
  private static final int MAX_ERRORS = 20;
  private static final int MAX_BUFFER = 60;
  private static final int MAX_SAVED = 5;
  private static final int NONE = -1;

  private static final int FINE = 0;
  private static final int STREAM_ENDS = 1;
  private static final int NO_SUCH_LINE = 2;
  private static final int NO_SUCH_MODE = 3;
  private static final int MARKER_IN_KERNEL = 4;
  private static final int WRONG_ESCAPE = 5;
  private static final int WRONG_PIXELS = 6;
  private static final int NOTHING_ABOVE = 7;
  private static final int WRONG_CHECK = 8;

  private static final long HASH_START = 4409L;
  private static final long HASH_FACTOR = 31L;
  private static final int EXPONENT_OF_ONE = 1023;
  private static final int MANTISSA_BITS = 52;
  private static final int MOST_HALVINGS = 1100;

  private final State now = new State();
  private final State snapshot = new State();
  private boolean hasSnapshot = false;
  private final History history = new History();
  private final PageText buffer = new PageText();
  private final Coder coder = new Coder();
  private final Reader reader = new Reader();
  // What a reading would bring, so that what is received stays.
  private final Reception trial = new Reception();

  public RunFaxes() {
  }

  // ---- the page

  public int setWidth(int pixels) throws IllegalArgumentException {
    if (pixels < MIN_WIDTH || pixels > MAX_WIDTH) {
      throw new IllegalArgumentException("a width is 8 to 32");
    }
    history.push(now);
    int before = now.page.width;
    now.page.emptyWith(pixels);
    now.stream.empty();
    now.reception.empty();
    return before;
  }

  public int addLine(long pixels) throws IllegalArgumentException, IllegalStateException {
    needPixels(pixels);
    if (now.page.isFull()) {
      throw new IllegalStateException("the page has 10 lines");
    }
    history.push(now);
    now.page.addRow(pixels);
    return now.page.count - 1;
  }

  public long setLine(int line, long pixels)
      throws IndexOutOfBoundsException, IllegalArgumentException {
    needLine(line);
    needPixels(pixels);
    history.push(now);
    long before = now.page.rowOf(line);
    now.page.putRow(line, pixels);
    return before;
  }

  public int dropLast() throws IllegalStateException {
    if (now.page.count == 0) {
      throw new IllegalStateException("the page has no line");
    }
    history.push(now);
    now.page.dropRow();
    return now.page.count;
  }

  public int setStyle(int style) throws IllegalArgumentException {
    if (style < BY_RUNS || style > SHORTEST) {
      throw new IllegalArgumentException("a style is 0 to 3");
    }
    history.push(now);
    int before = now.page.style;
    now.page.style = style;
    return before;
  }

  // ---- the stream

  public int send() {
    history.push(now);
    sendPage();
    return now.stream.length;
  }

  public int replace(int place, int number)
      throws IndexOutOfBoundsException, IllegalArgumentException {
    needPlace(place);
    needNumber(number);
    history.push(now);
    int before = now.stream.at(place);
    now.stream.put(place, number);
    return before;
  }

  public int lose(int place) throws IndexOutOfBoundsException {
    needPlace(place);
    history.push(now);
    int lost = now.stream.at(place);
    now.stream.takeOut(place);
    return lost;
  }

  public int gain(int place, int number)
      throws IndexOutOfBoundsException, IllegalArgumentException, IllegalStateException {
    if (place < 0 || place > now.stream.length) {
      throw new IndexOutOfBoundsException("no such place");
    }
    needNumber(number);
    if (now.stream.isFull()) {
      throw new IllegalStateException("the stream has 500 numbers");
    }
    history.push(now);
    now.stream.putAhead(place, number);
    return now.stream.length;
  }

  public int receive() {
    history.push(now);
    reader.readAll(now.stream, now.page.width, now.reception);
    return now.reception.count();
  }

  // ---- texts

  public int append(int code) throws IllegalArgumentException, IllegalStateException {
    if (code < 33 || code > 126) {
      throw new IllegalArgumentException("a character code is 33 to 126");
    }
    if (buffer.isFull()) {
      throw new IllegalStateException("the buffer has 60 characters");
    }
    buffer.add(code);
    return buffer.length;
  }

  public int clearBuffer() {
    int before = buffer.length;
    buffer.empty();
    return before;
  }

  public int firstError() {
    return buffer.firstWrong();
  }

  public int play() throws IllegalArgumentException {
    if (!buffer.isComplete()) {
      throw new IllegalArgumentException("the buffer is no page as a text");
    }
    history.push(now);
    int done = 0;
    boolean stopped = false;
    PartScanner part = buffer.scanner;
    part.restart();
    for (int i = 0; i < buffer.length && !stopped; i++) {
      part.accept(buffer.codeAt(i));
      if (buffer.endsPart(i)) {
        stopped = !perform(part);
        done += stopped ? 0 : 1;
      }
    }
    buffer.empty();
    now.stopped = stopped;
    now.stoppedPart = stopped ? done : 0;
    return done;
  }

  public boolean hasStopped() {
    return now.stopped;
  }

  public int stoppedPart() throws IllegalStateException {
    if (!now.stopped) {
      throw new IllegalStateException("the latest text did not stop");
    }
    return now.stoppedPart;
  }

  // ---- undo, the snapshot

  public int undo() throws IllegalStateException {
    if (history.count == 0) {
      throw new IllegalStateException("no state is saved");
    }
    history.popInto(now);
    return history.count;
  }

  public int keep() {
    snapshot.copyFrom(now);
    hasSnapshot = true;
    return now.page.count;
  }

  public int restore() throws IllegalStateException {
    if (!hasSnapshot) {
      throw new IllegalStateException("there is no snapshot");
    }
    history.push(now);
    now.copyFrom(snapshot);
    return now.page.count;
  }

  public int savedStates() {
    return history.count;
  }

  // ---- looks at the page; nothing is changed

  public int width() {
    return now.page.width;
  }

  public int lines() {
    return now.page.count;
  }

  public int style() {
    return now.page.style;
  }

  public long pixelsOf(int line) throws IndexOutOfBoundsException {
    needLine(line);
    return now.page.rowOf(line);
  }

  public boolean isBlack(int line, int pixel) throws IndexOutOfBoundsException {
    if (!now.page.has(line) || pixel < 0 || pixel >= now.page.width) {
      throw new IndexOutOfBoundsException("no such line or pixel");
    }
    return blackAt(now.page.rowOf(line), pixel);
  }

  public int runsOf(int line) throws IndexOutOfBoundsException {
    needLine(line);
    return 1 + Long.bitCount(bordersOf(now.page.rowOf(line), now.page.width));
  }

  public int longestRun(int line) throws IndexOutOfBoundsException {
    needLine(line);
    return longestBetween(bordersOf(now.page.rowOf(line), now.page.width), now.page.width);
  }

  public int blackPixels() {
    int black = 0;
    for (int line = 0; line < now.page.count; line++) {
      black += Long.bitCount(now.page.rowOf(line));
    }
    return black;
  }

  // ---- looks at codes

  public int codeLength(int line, int mode)
      throws IndexOutOfBoundsException, IllegalArgumentException {
    needLine(line);
    needMode(mode);
    coder.write(now.page, line, mode);
    return coder.length;
  }

  public int codeLengthByCounting(int line, int mode)
      throws IndexOutOfBoundsException, IllegalArgumentException {
    needLine(line);
    needMode(mode);
    return countedLength(line, mode);
  }

  public int modeOf(int line) throws IndexOutOfBoundsException {
    needLine(line);
    return modeToSend(line);
  }

  public int checkOf(int line, int mode)
      throws IndexOutOfBoundsException, IllegalArgumentException {
    needLine(line);
    needMode(mode);
    coder.write(now.page, line, mode);
    return coder.check;
  }

  public int wouldSend() {
    int total = 0;
    for (int line = 0; line < now.page.count; line++) {
      total += countedLength(line, modeToSend(line));
    }
    return total;
  }

  // ---- looks at the stream and what is received

  public int streamLength() {
    return now.stream.length;
  }

  public int numberAt(int place) throws IndexOutOfBoundsException {
    needPlace(place);
    return now.stream.at(place);
  }

  public int markers() {
    return now.stream.countMarkers();
  }

  public boolean isReceived(int line) throws IndexOutOfBoundsException {
    needLineOfAnyPage(line);
    return now.reception.has(line);
  }

  public long receivedPixels(int line) throws IndexOutOfBoundsException, IllegalStateException {
    needLineOfAnyPage(line);
    if (!now.reception.has(line)) {
      throw new IllegalStateException("the line is not received");
    }
    return now.reception.rowOf(line);
  }

  public int received() {
    return now.reception.count();
  }

  public int right() {
    return now.reception.countAlike(now.page);
  }

  public int errors() {
    return now.reception.errorCount;
  }

  public int errorPlace(int error) throws IndexOutOfBoundsException {
    needError(error);
    return now.reception.placeOf(error);
  }

  public int errorReason(int error) throws IndexOutOfBoundsException {
    needError(error);
    return now.reception.reasonOf(error);
  }

  // ---- what would be; nothing is changed

  public int wouldReceive() {
    reader.readAll(now.stream, now.page.width, trial);
    return trial.count();
  }

  public int wouldBeRight() {
    reader.readAll(now.stream, now.page.width, trial);
    return trial.countAlike(now.page);
  }

  public int rightIfReplaced(int place, int number)
      throws IndexOutOfBoundsException, IllegalArgumentException {
    needPlace(place);
    needNumber(number);
    int before = now.stream.at(place);
    now.stream.put(place, number);
    reader.readAll(now.stream, now.page.width, trial);
    now.stream.put(place, before);
    return trial.countAlike(now.page);
  }

  public double codedShare() {
    int pixels = now.page.width * now.page.count;
    if (pixels <= 0) {
      return 0.0;
    }
    return (double) (4 * wouldSend()) / (double) pixels;
  }

  public long digest() {
    long hash = HASH_START;
    hash = mix(hash, width());
    hash = mix(hash, lines());
    hash = mix(hash, style());
    hash = mix(hash, blackPixels());
    hash = mix(hash, wouldSend());
    hash = mix(hash, streamLength());
    hash = mix(hash, markers());
    hash = mix(hash, received());
    hash = mix(hash, right());
    hash = mix(hash, errors());
    hash = mix(hash, wouldReceive());
    hash = mix(hash, wouldBeRight());
    hash = mix(hash, savedStates());
    for (int line = 0; line < now.page.count; line++) {
      hash = mixLine(hash, line);
    }
    for (int place = 0; place < now.stream.length; place++) {
      hash = mix(hash, now.stream.at(place));
    }
    hash = mixReception(hash);
    hash = mix(hash, now.stopped ? 1 : 0);
    if (now.stopped) {
      hash = mix(hash, now.stoppedPart);
    }
    hash = mix(hash, bitsOf(codedShare()));
    hash = mix(hash, buffer.length);
    for (int i = 0; i < buffer.length; i++) {
      hash = mix(hash, buffer.codeAt(i));
    }
    return hash;
  }

  // ---- what a call needs

  private void needLine(int line) {
    if (!now.page.has(line)) {
      throw new IndexOutOfBoundsException("no such line");
    }
  }

  private static void needLineOfAnyPage(int line) {
    if (line < 0 || line >= MAX_LINES) {
      throw new IndexOutOfBoundsException("no page has such a line");
    }
  }

  private void needPlace(int place) {
    if (!now.stream.has(place)) {
      throw new IndexOutOfBoundsException("no such place");
    }
  }

  private void needError(int error) {
    if (!now.reception.hasError(error)) {
      throw new IndexOutOfBoundsException("no such error");
    }
  }

  private void needPixels(long pixels) {
    if (!now.page.fits(pixels)) {
      throw new IllegalArgumentException("a pixel from the width on is black");
    }
  }

  private static void needNumber(int number) {
    if (number < 0 || number > MAX_NUMBER) {
      throw new IllegalArgumentException("a number is 0 to 15");
    }
  }

  private static void needMode(int mode) {
    if (mode < 0 || mode >= MODES) {
      throw new IllegalArgumentException("a mode is 0 to 2");
    }
  }

  // ---- parts of the digest

  private static long mix(long hash, long value) {
    return HASH_FACTOR * hash + value;
  }

  private long mixLine(long before, int line) {
    long borders = bordersOf(now.page.rowOf(line), now.page.width);
    long hash = mix(before, now.page.rowOf(line));
    hash = mix(hash, 1 + Long.bitCount(borders));
    hash = mix(hash, longestBetween(borders, now.page.width));
    hash = mix(hash, modeToSend(line));
    for (int mode = 0; mode < MODES; mode++) {
      coder.write(now.page, line, mode);
      hash = mix(hash, coder.length);
      hash = mix(hash, countedLength(line, mode));
      hash = mix(hash, coder.check);
    }
    return hash;
  }

  private long mixReception(long before) {
    long hash = before;
    for (int line = 0; line < MAX_LINES; line++) {
      boolean here = now.reception.has(line);
      hash = mix(hash, here ? 1 : 0);
      if (here) {
        hash = mix(hash, now.reception.rowOf(line));
      }
    }
    for (int error = 0; error < now.reception.errorCount; error++) {
      hash = mix(hash, now.reception.placeOf(error));
      hash = mix(hash, now.reception.reasonOf(error));
    }
    return hash;
  }

  /**
   * The bits of a share, counted out because LANGUAGE.md lists no call for them. A share is 0.0 or
   * far from both ends of the doubles.
   */
  private static long bitsOf(double share) {
    if (share <= 0.0) {
      return 0L;
    }
    double mantissa = share;
    long exponent = EXPONENT_OF_ONE;
    for (int i = 0; i < MOST_HALVINGS && mantissa >= 2.0; i++) {
      mantissa = mantissa / 2.0;
      exponent++;
    }
    for (int i = 0; i < MOST_HALVINGS && mantissa < 1.0; i++) {
      mantissa = mantissa * 2.0;
      exponent--;
    }
    double scale = (double) (1L << MANTISSA_BITS);
    return (exponent << MANTISSA_BITS) + (long) ((mantissa - 1.0) * scale);
  }

  // ---- sending and parts of texts

  private void sendPage() {
    now.stream.empty();
    for (int line = 0; line < now.page.count; line++) {
      coder.write(now.page, line, modeToSend(line));
      now.stream.addAll(coder.code, coder.length);
    }
  }

  /** Does a part of a text; false, and nothing is changed, if its method would throw. */
  private boolean perform(PartScanner part) {
    switch (part.kind) {
      case '+':
        return part.pixelCount <= now.page.width && now.page.addRow(part.pixels);
      case '-':
        return now.page.dropRow();
      case 's':
        sendPage();
        return true;
      case 'r':
        reader.readAll(now.stream, now.page.width, now.reception);
        return true;
      case 'x':
        return now.stream.put(part.place, part.number);
      default:
        return false;
    }
  }

  private int modeToSend(int line) {
    if (now.page.style != SHORTEST) {
      return now.page.style;
    }
    int best = 0;
    int bestLength = countedLength(line, 0);
    for (int mode = 1; mode < MODES; mode++) {
      int length = countedLength(line, mode);
      if (length < bestLength) {
        best = mode;
        bestLength = length;
      }
    }
    return best;
  }

  // ---- runs and lengths told by counting

  private static boolean blackAt(long pixels, int pixel) {
    return ((pixels >>> pixel) & 1L) != 0L;
  }

  /** Bit x is 1, if a run begins at the pixel x that has another run ahead of it. */
  private static long bordersOf(long pixels, int width) {
    return (pixels ^ (pixels << 1)) & ((1L << width) - 1L);
  }

  private static int longestBetween(long borders, int width) {
    int longest = 0;
    int run = 0;
    for (int pixel = 0; pixel < width; pixel++) {
      run = blackAt(borders, pixel) ? 1 : run + 1;
      longest = Math.max(longest, run);
    }
    return longest;
  }

  private int countedLength(int line, int mode) {
    long pixels = now.page.toCode(line, mode);
    int width = now.page.width;
    int kernel = mode == RAW ? countedFours(pixels, width) : countedRuns(pixels, width);
    return AROUND_KERNEL + kernel;
  }

  private static int countedFours(long pixels, int width) {
    int numbers = 0;
    for (int from = 0; from < width; from += 4) {
      numbers += ((pixels >>> from) & 15L) == 15L ? 2 : 1;
    }
    return numbers;
  }

  private static int countedRuns(long pixels, int width) {
    long borders = bordersOf(pixels, width);
    int numbers = 0;
    int run = 0;
    for (int pixel = 0; pixel < width; pixel++) {
      if (blackAt(borders, pixel)) {
        numbers += numbersOfRun(run);
        run = 0;
      }
      run++;
    }
    return numbers + numbersOfRun(run);
  }

  private static int numbersOfRun(int length) {
    if (length < LONG_RUN) {
      return 1;
    }
    return length % 16 == MARK ? 4 : 3;
  }

  private static void copyInts(int[] from, int[] to) {
    System.arraycopy(from, 0, to, 0, Math.min(from.length, to.length));
  }

  private static void copyLongs(long[] from, long[] to) {
    System.arraycopy(from, 0, to, 0, Math.min(from.length, to.length));
  }

  /** The page, with the width and the style. */
  private static final class Page {
    private int width = FIRST_WIDTH;
    private int style = SHORTEST;
    private int count = 0;
    private final long[] rows = new long[MAX_LINES];

    private void emptyWith(int newWidth) {
      width = newWidth;
      count = 0;
    }

    private boolean has(int line) {
      return line >= 0 && line < count && line < rows.length;
    }

    private boolean isFull() {
      return count >= rows.length;
    }

    private boolean fits(long pixels) {
      return pixels >>> width == 0L;
    }

    private long rowOf(int line) {
      return line >= 0 && line < count && line < rows.length ? rows[line] : 0L;
    }

    private void putRow(int line, long pixels) {
      if (line >= 0 && line < count && line < rows.length) {
        rows[line] = pixels;
      }
    }

    private boolean addRow(long pixels) {
      if (count < 0 || count >= rows.length) {
        return false;
      }
      rows[count] = pixels;
      count++;
      return true;
    }

    private boolean dropRow() {
      if (count <= 0) {
        return false;
      }
      count--;
      return true;
    }

    /** The pixels that the kernel tells; where there is no line above, all are white there. */
    private long toCode(int line, int mode) {
      return mode == DIFFERENCES ? rowOf(line) ^ rowOf(line - 1) : rowOf(line);
    }

    private void copyFrom(Page other) {
      width = other.width;
      style = other.style;
      count = other.count;
      copyLongs(other.rows, rows);
    }
  }

  /** The row of numbers that is sent, damaged, and read. */
  private static final class Stream {
    private int length = 0;
    private final int[] numbers = new int[MAX_STREAM];

    private void empty() {
      length = 0;
    }

    private boolean has(int place) {
      return place >= 0 && place < length && place < numbers.length;
    }

    private boolean isFull() {
      return length >= numbers.length;
    }

    private int at(int place) {
      return place >= 0 && place < length && place < numbers.length ? numbers[place] : NONE;
    }

    private boolean put(int place, int number) {
      if (place < 0 || place >= length || place >= numbers.length) {
        return false;
      }
      numbers[place] = number;
      return true;
    }

    private void addAll(int[] code, int codeLength) {
      for (int i = 0; i < codeLength && i < code.length && !isFull(); i++) {
        length++;
        put(length - 1, code[i]);
      }
    }

    private void takeOut(int place) {
      if (has(place)) {
        for (int i = place; i < length - 1; i++) {
          put(i, at(i + 1));
        }
        length--;
      }
    }

    private void putAhead(int place, int number) {
      if (place >= 0 && place <= length && !isFull()) {
        length++;
        for (int i = length - 1; i > place; i--) {
          put(i, at(i - 1));
        }
        put(place, number);
      }
    }

    private boolean isMarker(int place) {
      return at(place) == MARK && at(place + 1) == MARK_END;
    }

    private int markerFrom(int start) {
      for (int place = start; place < length; place++) {
        if (isMarker(place)) {
          return place;
        }
      }
      return NONE;
    }

    private int countMarkers() {
      int markers = 0;
      for (int place = 0; place < length; place++) {
        markers += isMarker(place) ? 1 : 0;
      }
      return markers;
    }

    private void copyFrom(Stream other) {
      length = other.length;
      copyInts(other.numbers, numbers);
    }
  }

  /** What a reading brings: lines and errors. */
  private static final class Reception {
    // Bit n is 1, if the line n is received.
    private int lineBits = 0;
    private final long[] rows = new long[MAX_LINES];
    private int errorCount = 0;
    private final int[] places = new int[MAX_ERRORS];
    private final int[] reasons = new int[MAX_ERRORS];

    private void empty() {
      lineBits = 0;
      errorCount = 0;
    }

    private boolean has(int line) {
      return line >= 0 && line < rows.length && ((lineBits >>> line) & 1) != 0;
    }

    private long rowOf(int line) {
      return has(line) ? rows[line] : 0L;
    }

    private void take(int line, long pixels) {
      if (line >= 0 && line < rows.length) {
        rows[line] = pixels;
        lineBits |= 1 << line;
      }
    }

    private int count() {
      return Integer.bitCount(lineBits);
    }

    private int countAlike(Page page) {
      int alike = 0;
      for (int line = 0; line < page.count; line++) {
        alike += has(line) && rowOf(line) == page.rowOf(line) ? 1 : 0;
      }
      return alike;
    }

    private void note(int place, int reason) {
      if (errorCount >= 0 && errorCount < places.length && errorCount < reasons.length) {
        places[errorCount] = place;
        reasons[errorCount] = reason;
        errorCount++;
      }
    }

    private boolean hasError(int error) {
      return error >= 0 && error < errorCount;
    }

    private int placeOf(int error) {
      return hasError(error) && error < places.length ? places[error] : NONE;
    }

    private int reasonOf(int error) {
      return hasError(error) && error < reasons.length ? reasons[error] : NONE;
    }

    private void copyFrom(Reception other) {
      lineBits = other.lineBits;
      copyLongs(other.rows, rows);
      errorCount = other.errorCount;
      copyInts(other.places, places);
      copyInts(other.reasons, reasons);
    }
  }

  /** All that undo and the snapshot bring back. */
  private static final class State {
    private final Page page = new Page();
    private final Stream stream = new Stream();
    private final Reception reception = new Reception();
    private boolean stopped = false;
    private int stoppedPart = 0;

    private void copyFrom(State other) {
      page.copyFrom(other.page);
      stream.copyFrom(other.stream);
      reception.copyFrom(other.reception);
      stopped = other.stopped;
      stoppedPart = other.stoppedPart;
    }
  }

  /** The saved states, in a ring, so that none is made anew. */
  private static final class History {
    private int count = 0;
    private int oldest = 0;
    private final State[] ring = new State[MAX_SAVED];

    private History() {
      for (int i = 0; i < ring.length; i++) {
        ring[i] = new State();
      }
    }

    private State slot(int age) {
      int index = (oldest + age) % MAX_SAVED;
      return index >= 0 && index < ring.length ? ring[index] : null;
    }

    private void push(State state) {
      if (count >= MAX_SAVED) {
        oldest = (oldest + 1) % MAX_SAVED;
        count--;
      }
      State free = slot(count);
      if (free != null) {
        free.copyFrom(state);
        count++;
      }
    }

    private void popInto(State state) {
      State latest = slot(count - 1);
      if (count > 0 && latest != null) {
        state.copyFrom(latest);
        count--;
      }
    }
  }

  /** Writes the code of a line. */
  private static final class Coder {
    private final int[] kernel = new int[MAX_KERNEL];
    private int kernelLength = 0;
    private final int[] code = new int[MAX_CODE];
    private int length = 0;
    private int check = 0;

    private void write(Page page, int line, int mode) {
      long pixels = page.toCode(line, mode);
      kernelLength = 0;
      if (mode == RAW) {
        kernelByFours(pixels, page.width);
      } else {
        kernelByRuns(pixels, page.width);
      }
      length = 0;
      put(MARK);
      put(MARK_END);
      put(line);
      put(mode);
      int sum = line + mode;
      for (int i = 0; i < kernelLength && i < kernel.length; i++) {
        sum += kernel[i];
        put(kernel[i]);
        if (kernel[i] == MARK) {
          put(ESCAPED);
        }
      }
      check = sum % CHECK_BASE;
      put(check);
    }

    private void put(int number) {
      if (length >= 0 && length < code.length) {
        code[length] = number;
        length++;
      }
    }

    private void addToKernel(int number) {
      if (kernelLength >= 0 && kernelLength < kernel.length) {
        kernel[kernelLength] = number;
        kernelLength++;
      }
    }

    private void kernelByFours(long pixels, int width) {
      for (int from = 0; from < width; from += 4) {
        int four = 0;
        for (int i = 0; i < 4; i++) {
          four = 2 * four + (blackAt(pixels, from + i) ? 1 : 0);
        }
        addToKernel(four);
      }
    }

    private void kernelByRuns(long pixels, int width) {
      boolean black = false;
      int run = 0;
      for (int pixel = 0; pixel < width; pixel++) {
        if (blackAt(pixels, pixel) != black) {
          addRun(run);
          black = !black;
          run = 0;
        }
        run++;
      }
      addRun(run);
    }

    private void addRun(int run) {
      if (run < LONG_RUN) {
        addToKernel(run);
      } else {
        addToKernel(LONG_RUN);
        addToKernel(run / 16);
        addToKernel(run % 16);
      }
    }
  }

  /** Makes readings. */
  private static final class Reader {
    private int place = 0;
    private int sum = 0;
    private int reason = FINE;

    private void readAll(Stream stream, int width, Reception into) {
      into.empty();
      place = 0;
      for (int codes = 0; codes < MAX_STREAM; codes++) {
        int marker = stream.markerFrom(place);
        if (marker == NONE) {
          return;
        }
        place = marker + 2;
        reason = FINE;
        readCode(stream, width, into);
        if (reason != FINE) {
          into.note(marker, reason);
          place = marker + 2;
        }
      }
    }

    private void readCode(Stream stream, int width, Reception into) {
      int line = next(stream);
      if (line >= MAX_LINES) {
        reason = NO_SUCH_LINE;
      }
      int mode = reason == FINE ? next(stream) : NONE;
      if (mode >= MODES) {
        reason = NO_SUCH_MODE;
      }
      if (mode == DIFFERENCES && line > 0 && !into.has(line - 1)) {
        reason = NOTHING_ABOVE;
      }
      if (reason != FINE) {
        return;
      }
      sum = line + mode;
      long pixels = mode == RAW ? pixelsByFours(stream, width) : pixelsByRuns(stream, width);
      int check = reason == FINE ? next(stream) : NONE;
      if (reason == FINE && check != sum % CHECK_BASE) {
        reason = WRONG_CHECK;
      }
      if (reason == FINE) {
        into.take(line, mode == DIFFERENCES ? pixels ^ into.rowOf(line - 1) : pixels);
      }
    }

    /** The next number as it stands. */
    private int next(Stream stream) {
      int number = stream.at(place);
      if (number == NONE) {
        reason = STREAM_ENDS;
      }
      place++;
      return number;
    }

    /** The next number of the kernel, what is behind a 15 being looked at. */
    private int nextOfKernel(Stream stream) {
      int number = next(stream);
      if (number == MARK) {
        int behind = next(stream);
        if (behind == MARK_END) {
          reason = MARKER_IN_KERNEL;
        } else if (behind != ESCAPED && behind != NONE) {
          reason = WRONG_ESCAPE;
        }
      }
      sum += number;
      return reason == FINE ? number : NONE;
    }

    private long pixelsByFours(Stream stream, int width) {
      long pixels = 0L;
      for (int from = 0; from < width && reason == FINE; from += 4) {
        int four = nextOfKernel(stream);
        for (int i = 0; i < 4 && reason == FINE; i++) {
          boolean black = ((four >>> (3 - i)) & 1) != 0;
          if (black && from + i >= width) {
            reason = WRONG_PIXELS;
          } else if (black) {
            pixels |= 1L << (from + i);
          }
        }
      }
      return pixels;
    }

    private long pixelsByRuns(Stream stream, int width) {
      long pixels = 0L;
      boolean black = false;
      int told = 0;
      for (int run = 0; run < MAX_STREAM && told < width && reason == FINE; run++) {
        int length = nextOfKernel(stream);
        if (length == MARK) {
          reason = WRONG_PIXELS;
        } else if (length == LONG_RUN) {
          int sixteens = nextOfKernel(stream);
          int left = reason == FINE ? nextOfKernel(stream) : NONE;
          length = 16 * sixteens + left;
        }
        if (reason == FINE && length > width - told) {
          reason = WRONG_PIXELS;
        }
        if (reason == FINE && black) {
          pixels |= ((1L << length) - 1L) << told;
        }
        told += length;
        black = !black;
      }
      return pixels;
    }
  }

  /** The buffer. */
  private static final class PageText {
    private final int[] codes = new int[MAX_BUFFER];
    private int length = 0;
    private final PartScanner scanner = new PartScanner();

    private boolean isFull() {
      return length >= codes.length;
    }

    private void add(int code) {
      if (length >= 0 && length < codes.length) {
        codes[length] = code;
        length++;
      }
    }

    private void empty() {
      length = 0;
    }

    private int codeAt(int index) {
      return index >= 0 && index < length && index < codes.length ? codes[index] : NONE;
    }

    private int firstWrong() {
      scanner.restart();
      for (int i = 0; i < length; i++) {
        if (!scanner.accept(codeAt(i))) {
          return i;
        }
      }
      return length;
    }

    private boolean isComplete() {
      return firstWrong() == length && scanner.isComplete();
    }

    private boolean endsPart(int index) {
      return index + 1 == length || codeAt(index + 1) == ';';
    }
  }

  /** Reads parts of texts character by character, and holds what the part tells so far. */
  private static final class PartScanner {
    private static final int MAX_PLACE = 499;
    private static final int AT_START = 0;
    private static final int IN_PIXELS = 1;
    private static final int IN_PLACE = 2;
    private static final int IN_NUMBER = 3;
    private static final int AT_END = 4;

    private int phase = AT_START;
    private int kind = 0;
    private int pixelCount = 0;
    private long pixels = 0L;
    private int digits = 0;
    private int place = 0;
    private int number = 0;

    private void restart() {
      phase = AT_START;
      kind = 0;
      pixelCount = 0;
      pixels = 0L;
      digits = 0;
      place = 0;
      number = 0;
    }

    private boolean isComplete() {
      return phase == AT_END
          || phase == IN_PIXELS && pixelCount > 0
          || phase == IN_NUMBER && digits > 0;
    }

    /** Takes the next character; false, if it is a syntax error. */
    private boolean accept(int code) {
      if (code == ';') {
        boolean complete = isComplete();
        restart();
        return complete;
      }
      switch (phase) {
        case AT_START:
          return begin(code);
        case IN_PIXELS:
          return addPixel(code);
        case IN_PLACE:
          return addToPlace(code);
        case IN_NUMBER:
          return addToNumber(code);
        default:
          return false;
      }
    }

    private boolean begin(int code) {
      kind = code;
      switch (code) {
        case '+':
          phase = IN_PIXELS;
          return true;
        case 'x':
          phase = IN_PLACE;
          return true;
        case '-':
        case 's':
        case 'r':
          phase = AT_END;
          return true;
        default:
          return false;
      }
    }

    private boolean addPixel(int code) {
      if (pixelCount >= MAX_WIDTH || code != '.' && code != '#') {
        return false;
      }
      if (code == '#') {
        pixels |= 1L << pixelCount;
      }
      pixelCount++;
      return true;
    }

    private boolean addToPlace(int code) {
      if (code == '=' && digits > 0) {
        phase = IN_NUMBER;
        digits = 0;
        return true;
      }
      if (!isDigitBehind(place, code, MAX_PLACE)) {
        return false;
      }
      place = 10 * place + (code - '0');
      digits++;
      return true;
    }

    private boolean addToNumber(int code) {
      if (!isDigitBehind(number, code, MAX_NUMBER)) {
        return false;
      }
      number = 10 * number + (code - '0');
      digits++;
      return true;
    }

    private boolean isDigitBehind(int value, int code, int most) {
      boolean leadingZero = digits > 0 && value == 0;
      return code >= '0' && code <= '9' && !leadingZero && 10 * value + (code - '0') <= most;
    }
  }
}
