import java.lang.reflect.Constructor;
import java.lang.reflect.Field;
import java.lang.reflect.Method;
import java.lang.reflect.Modifier;
import java.nio.file.Files;
import java.nio.file.Path;
import java.util.Map;
import java.util.Random;
import java.util.Set;
import java.util.TreeMap;
import java.util.TreeSet;
import java.util.regex.Matcher;
import java.util.regex.Pattern;

/** The document's face just as it stands, a source without what LANGUAGE.md leaves out, and calls that never throw. */
public final class RuleTests {
  private static final String[] FACE = {"cls 1", "face 0", "below 2", "member 9", "is 2", "fits 2", "function 1", "seen 3",
    "seenAt 4", "argument 1", "lambda 5", "wipe 0", "choose 4", "phase 0", "applied 1", "special 2", "count 1"};
  private static final String[] CONSTANTS = {"NONE -1", "BAD -2", "UNSEEN -3", "UNMEANT -4", "UNFIT -5", "AMBIGUOUS -6",
    "INSTANCE -7"};
  private static final String[] LEFT_OUT = {"throw", "throws", "try", "catch", "synchronized", "assert", "volatile", "Object",
    "System.out", "->", "::", "equals", "hashCode", "toString", "protected", "HashMap", "record", "new Integer"};
  private static final String LIBRARY = "Arrays\\.(copyOf|copyOfRange|fill)|System\\.arraycopy|(Integer|Long|Math)\\."
    + "(compare|max|min|abs|bitCount|floorDiv|floorMod|signum|numberOf(Leading|Trailing)Zeros|M(AX|IN)_VALUE)";
  private static final Pattern METHOD =
    Pattern.compile("(?ms)^( {4}| {8})((?:public |private )?(?:[\\w\\[\\]]+ )?)(\\w+)\\([^()]*\\) \\{\n(.*?)^\\1\\}$");
  private static final int MOST_LINES = 60, MOST_DEPTH = 8;
  private static int failed = 0;

  private static void hold(boolean good, String what) {
    if (good) return;
    failed++;
    System.out.println("does not hold: " + what);
  }

  private static void faceIsAsDue() throws IllegalAccessException {
    TreeSet<String> due = new TreeSet<>(java.util.List.of(FACE));
    TreeSet<String> found = new TreeSet<>();
    for (Method m : MemberChoice.class.getDeclaredMethods()) {
      if (Modifier.isPrivate(m.getModifiers())) {
        for (String f : FACE) hold(!f.startsWith(m.getName() + " "), "a private method named " + m.getName());
        continue;
      }
      boolean plain = Modifier.isPublic(m.getModifiers()) && !Modifier.isStatic(m.getModifiers());
      hold(plain && m.getReturnType() == int.class, m + " is of the face");
      for (Class<?> p : m.getParameterTypes()) hold(p == int.class, m + " takes ints");
      found.add(m.getName() + " " + m.getParameterCount());
    }
    hold(due.equals(found), "the methods are " + due + ", found " + found);
    constantsAreAsDue();
    hold(Modifier.isFinal(MemberChoice.class.getModifiers()), "the class is final");
    Constructor<?>[] makers = MemberChoice.class.getDeclaredConstructors();
    boolean one = makers.length == 1 && makers[0].getParameterCount() == 0 && Modifier.isPublic(makers[0].getModifiers());
    hold(one, "there is one public constructor without parameters");
  }

  private static void constantsAreAsDue() throws IllegalAccessException {
    TreeSet<String> found = new TreeSet<>();
    for (Field f : MemberChoice.class.getDeclaredFields()) {
      if (Modifier.isPrivate(f.getModifiers())) continue;
      int wanted = Modifier.PUBLIC | Modifier.STATIC | Modifier.FINAL;
      hold(f.getModifiers() == wanted && f.getType() == int.class, f + " is a constant");
      found.add(f.getName() + " " + f.getInt(null));
    }
    hold(new TreeSet<>(java.util.List.of(CONSTANTS)).equals(found), "the constants, found " + found);
  }

  /** Rules 1, 2 and 11: the classes inside, and how many fields and parameters there may be. */
  private static void sizesAreAsDue() {
    Class<?>[] inside = MemberChoice.class.getDeclaredClasses();
    hold(inside.length < 12, "there are at most twelve classes");
    sizesAreAsDue(MemberChoice.class);
    for (Class<?> c : inside) {
      hold(Modifier.isStatic(c.getModifiers()) && !Modifier.isPublic(c.getModifiers()), c + " is static and not public");
      hold(c.getDeclaredClasses().length == 0, c + " has no class inside");
      sizesAreAsDue(c);
    }
  }

  private static void sizesAreAsDue(Class<?> c) {
    int fields = 0;
    for (Field f : c.getDeclaredFields()) {
      if (Modifier.isStatic(f.getModifiers())) hold(Modifier.isFinal(f.getModifiers()), f + " is final");
      else fields++;
    }
    hold(fields <= 20, c + " has at most twenty fields");
    for (Method m : c.getDeclaredMethods()) {
      boolean told = m.getName().equals("member") && c == MemberChoice.class;
      hold(told || m.getParameterCount() <= 7, m + " takes at most seven parameters, unless the document tells more");
    }
  }

  private static String codeOfTheClass() throws java.io.IOException {
    String source = Files.readString(Path.of("src/main/java/MemberChoice.java"));
    return source.replaceAll("(?s)/\\*.*?\\*/", "").replaceAll("//[^\n]*", "");
  }

  private static void sourceKeepsToTheRules() throws java.io.IOException {
    String code = codeOfTheClass();
    for (String word : LEFT_OUT) {
      boolean letters = Character.isLetter(word.charAt(0));
      String pattern = letters ? "(?s).*\\b" + word.replace(".", "\\.") + "\\b.*" : "(?s).*" + word + ".*";
      hold(!code.matches(pattern), "the source does without '" + word + "'");
    }
    String imports = code.replaceAll("(?s)public final class.*", "").strip();
    hold(imports.equals("import java.util.Arrays;"), "the source imports Arrays alone, found " + imports);
  }

  /** Rules 4, 11 and 12: what is called of the library, how long methods are, and that only constructors make objects. */
  private static void methodsAreAsDue() throws java.io.IOException {
    Matcher method = METHOD.matcher(codeOfTheClass());
    while (method.find()) {
      String name = method.group(3), body = method.group(4);
      boolean constructor = Character.isUpperCase(name.charAt(0));
      hold(body.lines().count() <= MOST_LINES, name + " is short");
      hold(constructor || !body.matches("(?s).*\\bnew\\b.*"), name + " makes no object");
      Matcher used = Pattern.compile("\\b(?:Arrays|Integer|Long|Math|System|String)\\.\\w+").matcher(body);
      while (used.find()) hold(used.group().matches(LIBRARY), name + " does without " + used.group());
    }
  }

  /** Rules 8 and 11: methods of one name are taken together, so that no call is overlooked. */
  private static void callsAreNotDeep() throws java.io.IOException {
    Map<String, Set<String>> called = new TreeMap<>();
    Matcher method = METHOD.matcher(codeOfTheClass());
    while (method.find()) {
      Set<String> names = called.computeIfAbsent(method.group(3), k -> new TreeSet<>());
      Matcher call = Pattern.compile("\\b(\\w+)\\(").matcher(method.group(4));
      while (call.find()) names.add(call.group(1));
    }
    for (Class<?> c : MemberChoice.class.getDeclaredClasses()) {
      for (Method m : c.getDeclaredMethods()) hold(called.containsKey(m.getName()), m + " was found");
    }
    for (Method m : MemberChoice.class.getDeclaredMethods()) {
      hold(called.containsKey(m.getName()), m + " was found");
      hold(depthOf(m.getName(), called, 1) <= MOST_DEPTH, m + " goes at most eight deep");
    }
  }

  private static int depthOf(String name, Map<String, Set<String>> called, int level) {
    if (!called.containsKey(name)) return level - 1;
    int deepest = level;
    if (level > MOST_DEPTH) return deepest;
    for (String next : called.get(name)) deepest = Math.max(deepest, depthOf(next, called, level + 1));
    return deepest;
  }

  private static int anyNumber(Random random) {
    int k = random.nextInt(10);
    return k == 0 ? random.nextInt() : k == 1 ? Integer.MIN_VALUE : k == 2 ? Integer.MAX_VALUE : k < 7 ? random.nextInt(45) - 3 : random.nextInt(110) - 3;
  }

  /** Far more than 512 calls too: what they answer is free then, but none may throw. */
  private static void nothingThrows() throws ReflectiveOperationException {
    Random random = new Random(7);
    Method[] all = MemberChoice.class.getMethods();
    for (int run = 0; run < 300; run++) {
      MemberChoice x = new MemberChoice();
      for (int call = 0; call < 2000; call++) {
        Method m = all[random.nextInt(all.length)];
        if (m.getDeclaringClass() != MemberChoice.class) continue;
        Object[] given = new Object[m.getParameterCount()];
        for (int i = 0; i < given.length; i++) given[i] = anyNumber(random);
        m.invoke(x, given);
      }
    }
  }

  public static void main(String[] args) throws Exception {
    faceIsAsDue();
    sizesAreAsDue();
    sourceKeepsToTheRules();
    methodsAreAsDue();
    callsAreNotDeep();
    nothingThrows();
    System.out.println(failed == 0 ? "all rules hold" : failed + " do not hold");
    if (failed != 0) System.exit(1);
  }
}
