import java.util.LinkedHashMap;
import java.util.Map;
import java.util.Set;
import java.util.TreeSet;
import java.util.function.Consumer;
import java.util.function.Supplier;

/** What each call leaves as it was: of all that an object holds just what its promise names differs. */
final class NothingElse {
  private static final String TEXT = "s;r;x0=3";

  private NothingElse() {
  }

  static void run() {
    Check.test("an object that holds something of all", NothingElse::whatItHolds);
    page();
    stream();
    texts();
    undoAndSnapshot();
  }

  /**
   * An object that holds something of all, and something else of all in its snapshot, with four saved
   * states: a page that is not the one that was sent, a stream that is not the one that was read.
   */
  private static RunFaxes holdingAll() {
    RunFaxes x = new RunFaxes();
    Make.play(x, "+#;+##;s;x9=0;r;x400=1");
    x.keep();
    x.setWidth(10);
    x.setStyle(1);
    Make.play(x, "+##########;+#;s;x3=3;r;x0=14;x10=3;-;+..#;x499=1");
    Make.type(x, TEXT);
    return x;
  }

  private static void whatItHolds() {
    Map<String, String> due = new LinkedHashMap<>();
    String[] now = {"10", "1", "1023 4 ", "e003f1f1cd3011800a", "1:1 ", "0:3", "9"};
    String[] kept = {"24", "3", "1 3 ", "f00001e170f01002e169", "1:3 ", "0:8", "5"};
    String[] names = {"width", "style", "page", "stream", "received", "errors", "stop"};
    for (int i = 0; i < names.length; i++) {
      due.put(names[i], now[i]);
      due.put("kept " + names[i], kept[i]);
    }
    due.put("saved", "4");
    due.put("text", TEXT);
    Check.same("all that it holds", partsOf(holdingAll(), TEXT), due);
  }

  /** All that the object holds, told part by part; the object is used up by it. */
  private static Map<String, String> partsOf(RunFaxes x, String text) {
    Map<String, String> parts = new LinkedHashMap<>();
    Check.same("digest with the text " + text, x.digest(), Digests.of(x, text));
    tell(x, parts, "");
    parts.put("saved", String.valueOf(x.savedStates()));
    parts.put("text", text);
    Check.same("the length of the text", x.clearBuffer(), text.length());
    x.restore();
    tell(x, parts, "kept ");
    return parts;
  }

  private static void tell(RunFaxes x, Map<String, String> parts, String ahead) {
    StringBuilder received = new StringBuilder();
    for (int line = 0; line < 10; line++) {
      received.append(x.isReceived(line) ? line + ":" + x.receivedPixels(line) + " " : "");
    }
    parts.put(ahead + "width", String.valueOf(x.width()));
    parts.put(ahead + "style", String.valueOf(x.style()));
    StringBuilder page = new StringBuilder();
    for (int line = 0; line < x.lines(); line++) {
      page.append(x.pixelsOf(line)).append(' ');
    }
    parts.put(ahead + "page", page.toString());
    parts.put(ahead + "stream", Make.stream(x));
    parts.put(ahead + "received", received.toString());
    parts.put(ahead + "errors", Make.errors(x));
    parts.put(ahead + "stop", x.hasStopped() ? String.valueOf(x.stoppedPart()) : "none");
  }

  private static void changes(String what, Consumer<RunFaxes> call, String... due) {
    changes(what, NothingElse::holdingAll, call, TEXT, due);
  }

  private static void changes(String what, Supplier<RunFaxes> made, Consumer<RunFaxes> call,
      String textThen, String... due) {
    Check.test("changed by " + what + ": " + String.join(", ", due), () -> {
      Map<String, String> before = partsOf(made.get(), TEXT);
      RunFaxes x = made.get();
      call.accept(x);
      Map<String, String> then = partsOf(x, textThen);
      Set<String> changed = new TreeSet<>();
      for (String part : before.keySet()) {
        if (!before.get(part).equals(then.get(part))) {
          changed.add(part);
        }
      }
      Check.same("what is changed", changed, new TreeSet<>(Set.of(due)));
    });
  }

  private static void page() {
    changes("setWidth", x -> x.setWidth(12), "width", "page", "stream", "received", "errors", "saved");
    changes("setWidth to the same", x -> x.setWidth(10), "page", "stream", "received", "errors", "saved");
    changes("addLine", x -> x.addLine(5), "page", "saved");
    changes("setLine", x -> x.setLine(1, 5), "page", "saved");
    changes("setLine to the same", x -> x.setLine(0, 1023), "saved");
    changes("dropLast", RunFaxes::dropLast, "page", "saved");
    changes("setStyle", x -> x.setStyle(2), "style", "saved");
    changes("setStyle to the same", x -> x.setStyle(1), "saved");
  }

  private static void stream() {
    changes("send", RunFaxes::send, "stream", "saved");
    changes("replace", x -> x.replace(1, 7), "stream", "saved");
    changes("replace by the same", x -> x.replace(0, 14), "saved");
    changes("lose", x -> x.lose(1), "stream", "saved");
    changes("gain", x -> x.gain(1, 7), "stream", "saved");
    changes("receive", RunFaxes::receive, "received", "errors", "saved");
  }

  private static void texts() {
    changes("append", NothingElse::holdingAll, x -> x.append('~'), TEXT + "~", "text");
    changes("clearBuffer", NothingElse::holdingAll, RunFaxes::clearBuffer, "", "text");
    changes("firstError", RunFaxes::firstError);
    changes("play", NothingElse::holdingAll, RunFaxes::play, "",
        "stream", "received", "errors", "stop", "text", "saved");
    changes("play of lines", NothingElse::holdingAll, x -> {
      x.clearBuffer();
      Make.play(x, "+#;-;-");
    }, "", "page", "stop", "text", "saved");
    changes("play that stops at once", NothingElse::holdingAll, x -> {
      x.clearBuffer();
      Make.play(x, "x400=1;s;r");
    }, "", "stop", "text", "saved");
    changes("play that throws", NothingElse::holdingAll, x -> {
      x.append(';');
      Check.refuses(x, IllegalArgumentException.class, x::play);
    }, TEXT + ";", "text");
  }

  private static void undoAndSnapshot() {
    changes("undo", x -> {
      x.setWidth(12);
      x.undo();
    });
    changes("undo of what was done before", RunFaxes::undo,
        "page", "stream", "received", "errors", "stop", "saved");
    changes("keep", RunFaxes::keep, "kept width", "kept style", "kept page", "kept stream", "kept received",
        "kept errors", "kept stop");
    changes("restore", RunFaxes::restore, "width", "style", "page", "stream", "received", "errors", "stop",
        "saved");
    changes("restore twice", x -> {
      x.restore();
      x.undo();
      x.restore();
    }, "width", "style", "page", "stream", "received", "errors", "stop", "saved");
  }
}
