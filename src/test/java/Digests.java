import java.util.ArrayList;
import java.util.List;

/** The digest as the document tells it, by the other answers of the object. */
final class Digests {
  private Digests() {
  }

  static long of(RunFaxes x, String buffer) {
    List<Long> values = new ArrayList<>();
    int[] looks = {x.width(), x.lines(), x.style(), x.blackPixels(), x.wouldSend(), x.streamLength(),
        x.markers(), x.received(), x.right(), x.errors(), x.wouldReceive(), x.wouldBeRight(),
        x.savedStates()};
    for (int look : looks) {
      values.add((long) look);
    }
    for (int line = 0; line < x.lines(); line++) {
      values.add(x.pixelsOf(line));
      values.add((long) x.runsOf(line));
      values.add((long) x.longestRun(line));
      values.add((long) x.modeOf(line));
      for (int mode = 0; mode < 3; mode++) {
        values.add((long) x.codeLength(line, mode));
        values.add((long) x.codeLengthByCounting(line, mode));
        values.add((long) x.checkOf(line, mode));
      }
    }
    for (int place = 0; place < x.streamLength(); place++) {
      values.add((long) x.numberAt(place));
    }
    for (int line = 0; line < 10; line++) {
      values.add(x.isReceived(line) ? 1L : 0L);
      if (x.isReceived(line)) {
        values.add(x.receivedPixels(line));
      }
    }
    for (int error = 0; error < x.errors(); error++) {
      values.add((long) x.errorPlace(error));
      values.add((long) x.errorReason(error));
    }
    values.add(x.hasStopped() ? 1L : 0L);
    if (x.hasStopped()) {
      values.add((long) x.stoppedPart());
    }
    values.add(Double.doubleToLongBits(x.codedShare()));
    values.add((long) buffer.length());
    for (char c : buffer.toCharArray()) {
      values.add((long) c);
    }
    long hash = 4409;
    for (long value : values) {
      hash = 31 * hash + value;
    }
    return hash;
  }
}
