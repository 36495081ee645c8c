import java.lang.reflect.InvocationTargetException;
import java.lang.reflect.Method;
import java.util.Map;
import java.util.TreeMap;
import java.util.TreeSet;

/**
 * What the tests of the document's sentences share. A test is a method whose name begins with the promise that it tests (or
 * "terms", "whatItIs", "readme"); its remark tells the sentence.
 */
abstract class DocumentTest {
  static final int NONE = MemberChoice.NONE, BAD = MemberChoice.BAD, UNSEEN = MemberChoice.UNSEEN;
  static final int UNMEANT = MemberChoice.UNMEANT, UNFIT = MemberChoice.UNFIT, AMBIGUOUS = MemberChoice.AMBIGUOUS;
  static final int INSTANCE = MemberChoice.INSTANCE;
  static final int PLAIN = 0, STATIC = 1, PRIVATE = 2, ABSTRACT = 4, VARIED = 8;
  static final int BOOL = 0, INT = 1, LONG = 2, DOUBLE = 3, BOXED_BOOL = 4, BOXED_INT = 5, BOXED_LONG = 6, BOXED_DOUBLE = 7;
  static final int OBJECT = 8, NUMBER = 9, NULL = 10, ARRAY = 64;
  static final int LEAST = Integer.MIN_VALUE, MOST = Integer.MAX_VALUE;
  static final State NOTHING = State.NOTHING, SOME = State.SOME, FULL = State.FULL;

  /** All numbers near any limit of the document, the greatest and smallest ints, and ints that are small when cut. */
  static final int[] NUMBERS = numbers();

  private static final int MOST_LINES = 40;
  private static int passed = 0, failed = 0;
  private static String title = "";

  private static int[] numbers() {
    TreeSet<Integer> all = new TreeSet<>();
    for (int n = -140; n <= 280; n++) all.add(n);
    for (int n = 0; n <= 128; n++) {
      all.add(LEAST + n);
      all.add(MOST - n);
      all.add((1 << 16) + n);
      all.add(n - (1 << 16));
    }
    return all.stream().mapToInt(Integer::intValue).toArray();
  }

  static boolean isToldType(int t, int told) { return t >= 16 && t < 16 + told; }

  static boolean isElement(int t, int told) { return t >= 0 && t <= 9 || isToldType(t, told); }

  static boolean isArray(int t, int told) { return t >= 64 && isElement(t - 64, told); }

  /** A TYPE that a parameter or a result may have. */
  static boolean isDeclared(int t, int told) { return isElement(t, told) || isArray(t, told); }

  static boolean isType(int t, int told) { return isDeclared(t, told) || t == NULL; }

  static int[] allTypes(int told) {
    TreeSet<Integer> all = new TreeSet<>();
    for (int t = 0; t < 128; t++) if (isType(t, told)) all.add(t);
    return all.stream().mapToInt(Integer::intValue).toArray();
  }

  /** An object with so many told TYPES, CLASSES all, each below the one before. */
  static Counted withClasses(int told) {
    Counted x = new Counted();
    for (int k = 0; k < told; k++) x.cls(k == 0 ? OBJECT : 15 + k);
    return x;
  }

  static Counted withFaces(int told) {
    Counted x = new Counted();
    for (int k = 0; k < told; k++) x.face();
    return x;
  }

  static void due(int want, int got) { due(want, got, ""); }

  static void due(int want, int got, String what) {
    if (got == want) {
      passed++;
    } else {
      fail("line " + lineOfTheTest() + " " + what + ": answered " + got + ", due is " + want);
    }
  }

  private static int lineOfTheTest() {
    String own = DocumentTest.class.getName();
    return StackWalker.getInstance().walk(s -> s.filter(f -> !f.getClassName().equals(own)).findFirst().get().getLineNumber());
  }

  /** The call is BAD in that state, and leaves the object as it was. */
  static void refused(State state, String name, int... given) {
    Call call = new Call(name, given);
    due(BAD, state.fresh().ask(call), call.toString());
    String change = state.changedBy(call);
    if (change.isEmpty()) passed++;
    else fail(change);
  }

  private static void fail(String text) {
    failed++;
    if (failed <= MOST_LINES) System.out.println(title + ": " + text);
  }

  private static Map<String, Method> testsOf(Class<?> tests) {
    Map<String, Method> found = new TreeMap<>();
    for (Method m : tests.getDeclaredMethods()) {
      if (m.getName().matches("(promise\\d\\d|terms|whatItIs|readme).*")) found.put(m.getName(), m);
    }
    return found;
  }

  /** A test that throws has failed, and the others are still run. */
  private static void run(Method test) throws IllegalAccessException {
    try {
      test.invoke(null);
    } catch (InvocationTargetException e) {
      fail("threw " + e.getCause() + " at " + e.getCause().getStackTrace()[0]);
    }
  }

  static void runAll(Class<?> tests) throws IllegalAccessException {
    Map<String, Method> found = testsOf(tests);
    for (Map.Entry<String, Method> test : found.entrySet()) {
      title = test.getKey();
      int before = passed + failed;
      run(test.getValue());
      if (passed + failed == before) fail("asks nothing");
    }
    if (failed > MOST_LINES) System.out.println("and " + (failed - MOST_LINES) + " more");
    System.out.println(found.size() + " tests: " + passed + " answers as due, " + failed + " not");
    if (failed != 0 || found.isEmpty()) System.exit(1);
  }
}
