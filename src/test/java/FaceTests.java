import java.lang.reflect.Constructor;
import java.lang.reflect.Field;
import java.lang.reflect.Method;
import java.lang.reflect.Modifier;
import java.util.ArrayList;
import java.util.Arrays;
import java.util.Collections;
import java.util.List;

/** The public face: just the methods of the document, with their throws clauses in order. */
final class FaceTests {
  private static final String FACE = """
      int setWidth(int) IllegalArgumentException
      int addLine(long) IllegalArgumentException IllegalStateException
      long setLine(int,long) IndexOutOfBoundsException IllegalArgumentException
      int dropLast() IllegalStateException
      int setStyle(int) IllegalArgumentException
      int send()
      int replace(int,int) IndexOutOfBoundsException IllegalArgumentException
      int lose(int) IndexOutOfBoundsException
      int gain(int,int) IndexOutOfBoundsException IllegalArgumentException IllegalStateException
      int receive()
      int append(int) IllegalArgumentException IllegalStateException
      int clearBuffer()
      int firstError()
      int play() IllegalArgumentException
      boolean hasStopped()
      int stoppedPart() IllegalStateException
      int undo() IllegalStateException
      int keep()
      int restore() IllegalStateException
      int savedStates()
      int width()
      int lines()
      int style()
      long pixelsOf(int) IndexOutOfBoundsException
      boolean isBlack(int,int) IndexOutOfBoundsException
      int runsOf(int) IndexOutOfBoundsException
      int longestRun(int) IndexOutOfBoundsException
      int blackPixels()
      int codeLength(int,int) IndexOutOfBoundsException IllegalArgumentException
      int codeLengthByCounting(int,int) IndexOutOfBoundsException IllegalArgumentException
      int modeOf(int) IndexOutOfBoundsException
      int checkOf(int,int) IndexOutOfBoundsException IllegalArgumentException
      int wouldSend()
      int streamLength()
      int numberAt(int) IndexOutOfBoundsException
      int markers()
      boolean isReceived(int) IndexOutOfBoundsException
      long receivedPixels(int) IndexOutOfBoundsException IllegalStateException
      int received()
      int right()
      int errors()
      int errorPlace(int) IndexOutOfBoundsException
      int errorReason(int) IndexOutOfBoundsException
      int wouldReceive()
      int wouldBeRight()
      int rightIfReplaced(int,int) IndexOutOfBoundsException IllegalArgumentException
      double codedShare()
      long digest()
      """;

  private FaceTests() {
  }

  static void run() {
    Check.test("the face: the class", FaceTests::theClass);
    Check.test("the face: the methods", FaceTests::theMethods);
    Check.test("the face: nothing else is seen from outside", FaceTests::nothingElse);
  }

  private static void theClass() {
    int modifiers = RunFaxes.class.getModifiers();
    Check.holds("public final", Modifier.isPublic(modifiers) && Modifier.isFinal(modifiers));
    Check.same("the class above", RunFaxes.class.getSuperclass(), Object.class);
    Check.same("interfaces", RunFaxes.class.getInterfaces().length, 0);
    Constructor<?>[] constructors = RunFaxes.class.getDeclaredConstructors();
    Check.same("constructors", constructors.length, 1);
    Check.same("its parameters", constructors[0].getParameterCount(), 0);
    Check.holds("it is public", Modifier.isPublic(constructors[0].getModifiers()));
  }

  private static String told(Method method) {
    StringBuilder text = new StringBuilder();
    text.append(method.getReturnType().getSimpleName()).append(' ').append(method.getName()).append('(');
    for (int i = 0; i < method.getParameterCount(); i++) {
      text.append(i == 0 ? "" : ",").append(method.getParameterTypes()[i].getSimpleName());
    }
    text.append(')');
    for (Class<?> exception : method.getExceptionTypes()) {
      text.append(' ').append(exception.getSimpleName());
    }
    return text.toString();
  }

  private static void theMethods() {
    List<String> due = new ArrayList<>(Arrays.asList(FACE.strip().split("\n")));
    List<String> got = new ArrayList<>();
    for (Method method : RunFaxes.class.getDeclaredMethods()) {
      if (!Modifier.isPrivate(method.getModifiers())) {
        got.add(told(method));
        Check.same("the modifiers of " + method.getName(), method.getModifiers(), Modifier.PUBLIC);
      }
    }
    Collections.sort(due);
    Collections.sort(got);
    Check.same("the face", got, due);
  }

  private static void nothingElse() {
    for (Field field : RunFaxes.class.getDeclaredFields()) {
      Check.holds(field + " is private", Modifier.isPrivate(field.getModifiers()));
    }
    List<String> names = new ArrayList<>();
    for (String line : FACE.strip().split("\n")) {
      names.add(line.replaceAll("^\\w+ (\\w+)\\(.*", "$1"));
    }
    List<Class<?>> all = new ArrayList<>(Arrays.asList(RunFaxes.class.getDeclaredClasses()));
    for (Class<?> inside : RunFaxes.class.getDeclaredClasses()) {
      Check.holds(inside + " is static and not public", Modifier.isStatic(inside.getModifiers())
          && !Modifier.isPublic(inside.getModifiers()) && !Modifier.isProtected(inside.getModifiers()));
    }
    all.add(RunFaxes.class);
    for (Class<?> one : all) {
      for (Method method : one.getDeclaredMethods()) {
        Check.holds(method + " bears no public name",
            Modifier.isPublic(method.getModifiers()) || !names.contains(method.getName()));
      }
    }
    Check.holds("some twelve classes", all.size() <= 12);
  }
}
