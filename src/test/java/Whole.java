/** All that can be seen of an object; the object is used up by it. */
final class Whole {
  private Whole() {
  }

  /** The digests of now, behind each undo there is, and behind restore, and the buffer. */
  static String of(RunFaxes x) {
    StringBuilder all = new StringBuilder();
    all.append(x.digest());
    for (int left = x.savedStates(); left > 0; left--) {
      all.append(" undo ").append(x.undo()).append(' ').append(x.digest());
    }
    try {
      all.append(" restore ").append(x.restore()).append(' ').append(x.digest());
    } catch (IllegalStateException e) {
      all.append(" no snapshot");
    }
    return all.append(" buffer ").append(x.clearBuffer()).toString();
  }
}
