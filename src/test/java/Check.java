import java.util.Objects;

/** Counts tests, and tells those that fail. */
final class Check {
  interface Body {
    void run() throws Exception;
  }

  private static int passed = 0;
  private static int failed = 0;

  private Check() {
  }

  static void test(String name, Body body) {
    try {
      body.run();
      passed++;
    } catch (Exception | AssertionError | StackOverflowError e) {
      failed++;
      System.out.println("FAILED " + name + ": " + e);
    }
  }

  static void same(String what, Object got, Object due) {
    if (!Objects.equals(got, due)) {
      throw new AssertionError(what + " is " + got + ", due is " + due);
    }
  }

  static void same(String what, long got, long due) {
    same(what, (Object) got, (Object) due);
  }

  static void holds(String what, boolean holds) {
    if (!holds) {
      throw new AssertionError(what + " does not hold");
    }
  }

  /** The call throws just this class of exception, and the digest of the object stays. */
  static void refuses(RunFaxes x, Class<? extends Exception> due, Body call) {
    long before = x.digest();
    Class<?> got = null;
    try {
      call.run();
    } catch (Exception e) {
      got = e.getClass();
    }
    same("the exception", got, due);
    same("the digest behind an exception", x.digest(), before);
  }

  static int close() {
    System.out.println(passed + " passed, " + failed + " failed");
    return failed;
  }
}
