import java.lang.reflect.Method;
import java.lang.reflect.Modifier;
import java.util.ArrayDeque;
import java.util.ArrayList;
import java.util.Arrays;
import java.util.List;
import java.util.Random;
import java.util.TreeMap;

/** Random runs of calls, each answer held against PlainModel's; the seeds are fixed, so the runs are always the same. */
public final class ModelRuns {
  private static final int RUNS = 9000, CALLS = 512, NONE = -1;
  private static final int[] ODD = {-2147483648, 2147483647, -9, -8, -3, -2, -1, 10, 11, 15, 40, 60, 63, 64, 74, 79, 104, 128};
  private static final String[] METHODS = {"cls", "face", "below", "member", "is", "fits", "function", "seen", "seenAt",
    "argument", "lambda", "wipe", "choose", "phase", "applied", "special", "count"};
  private static final Method[] REAL = methodsOf(MemberChoice.class), MODEL = methodsOf(PlainModel.class);
  private static final TreeMap<Integer, Integer> chosen = new TreeMap<>();
  private static final int[] phases = new int[4];
  private static int wrong = 0;
  private static int specialNo = 0, functionsFound = 0, finer = 0;

  private final Random random;
  private final int names, odd, pool;
  private final List<int[]> kept = new ArrayList<>();
  private final ArrayDeque<int[]> ahead = new ArrayDeque<>();
  private final PlainModel model = new PlainModel();
  private final boolean[] isFace = new boolean[24];
  private int told = 0, aimsFirst = 0, left = CALLS, latest = 0;

  private ModelRuns(int seed) {
    random = new Random(seed);
    names = 1 + random.nextInt(3);
    odd = random.nextInt(4) == 0 ? 8 : 60;
    pool = 2 + random.nextInt(22);
    if (random.nextInt(3) == 0) prepareFunctions();
  }

  /** FUNCTIONS that differ in their results alone, and a CLASS (16) with MEMBERS that take them. */
  private void prepareFunctions() {
    aimsFirst = 30;
    int[] results = {NONE, 1, 2, 3, 5, 6, 7, 8, 9, 1, 5, 0, 4, 65};
    int faces = 2 + below(6), last = 16 + faces;
    ahead.add(new int[] {0, 8});
    for (int k = 0; k < faces; k++) ahead.add(new int[] {1});
    for (int t = 17; t <= last; t++) {
      int count = below(8) == 0 ? 0 : 1;
      ahead.add(new int[] {3, t, 0, 4, results[below(results.length)], count, 1, 1, 1, 1});
    }
    if (below(3) == 0) ahead.add(new int[] {2, 17 + below(faces), 17 + below(faces)});
    int[] seconds = {5, 1, 8, 2, 9};
    int width = 1 + below(2);
    boolean varied = below(3) == 0;
    for (int t = 17; t <= last; t++) {
      int second = varied ? 64 + 17 + below(faces) : below(2) == 0 ? 5 : seconds[below(5)];
      boolean spread = varied && width == 1;
      ahead.add(new int[] {3, 16, 1, varied ? 8 : 0, NONE, width, spread ? 64 + t : t, second, 0, 0});
    }
  }

  private int below(int n) { return random.nextInt(n); }

  private boolean rarely() { return below(odd) == 0; }

  private int oddOne() { return ODD[below(ODD.length)]; }

  private int toldOne() { return rarely() ? oddOne() : 16 + below(Math.max(told, 1)); }

  private int toldFace(boolean wanted) {
    for (int k = 0; k < 6; k++) {
      int t = below(Math.max(told, 1));
      if (isFace[t] == wanted) return 16 + t;
    }
    return toldOne();
  }

  private int plainType() {
    int k = below(10);
    return k < 3 ? below(4) : k < 5 ? 4 + below(6) : toldOne();
  }

  private int type() {
    if (rarely()) return oddOne();
    return below(6) == 0 ? 64 + plainType() : plainType();
  }

  private int simple() { return below(3) == 0 ? type() : below(3) == 0 ? 5 : 1; }

  private int result() { return below(3) == 0 ? NONE : below(2) == 0 ? simple() : type(); }

  private int name() { return rarely() ? oddOne() : below(names); }

  private int from() { return below(2) == 0 ? NONE : toldOne(); }

  private int[] call() {
    if (!ahead.isEmpty()) return ahead.poll();
    if (told < 3) return newType();
    aimsFirst--;
    if (!kept.isEmpty() && (aimsFirst >= 0 || below(12) == 0)) {
      aim(kept.get(below(kept.size())));
      return ahead.poll();
    }
    int k = below(100);
    if (k < 4 && told < pool) return newType();
    if (k < 10) return new int[] {2, below(2) == 0 ? toldFace(true) : toldOne(), toldFace(true)};
    if (k < 26) return newMember();
    if (k < 33) return new int[] {4, type(), type()};
    if (k < 37) return new int[] {5, type(), type()};
    if (k < 41) return new int[] {6, below(2) == 0 ? toldFace(true) : type()};
    if (k < 44) return new int[] {7, toldOne(), name(), from()};
    if (k < 48) return new int[] {8, toldOne(), name(), from(), below(5) - 1};
    if (k < 54) return new int[] {9, type()};
    if (k < 64) return new int[] {10, rarely() ? below(5) - 1 : below(3), rarely() ? 2 : below(4) == 0 ? 0 : 1, simple(), simple(), result()};
    if (k < 72) return new int[] {11};
    if (k < 86) return new int[] {12, below(2) == 0 ? toldFace(false) : toldOne(), name(), from(), rarely() ? 2 : below(5) == 0 ? 1 : 0};
    if (k < 88) return new int[] {13};
    if (k < 92) return new int[] {14, below(6) - 1};
    if (k < 98) return new int[] {15, below(kept.size() + 2) - 1, below(kept.size() + 2) - 1};
    return new int[] {16, below(4) - (rarely() ? 2 : 0)};
  }

  /** Calls that ask for one MEMBER, with ARGUMENTS that often fit it. */
  private void aim(int[] m) {
    ahead.add(new int[] {11});
    boolean varied = (m[3] & 8) != 0;
    int n = varied && below(3) > 0 ? m[5] - 1 + below(3) : m[5];
    for (int i = 0; i < n; i++) {
      boolean spread = varied && i >= m[5] - 1 && (n != m[5] || below(2) == 0);
      ahead.add(argumentFor(spread ? m[6 + m[5] - 1] - 64 : m[6 + i]));
    }
    int type = m[1];
    for (int k = 0; k < 4 && below(2) == 0; k++) {
      int t = toldOne();
      if (model.is(t, m[1]) == 1) type = t;
    }
    ahead.add(new int[] {12, type, m[2], (m[3] & 2) != 0 && below(3) > 0 ? m[1] : from(), below(8) == 0 ? 1 : 0});
  }

  private int[] argumentFor(int type) {
    int f = model.function(type);
    if (f >= 0 && below(6) > 0) {
      int[] m = kept.get(f);
      int result = m[4] == NONE ? NONE : near(m[4]);
      return new int[] {10, m[5], below(3) == 0 ? 0 : 1, m[6], m[7], result};
    }
    return new int[] {9, below(8) == 0 ? 10 : near(type)};
  }

  private int near(int type) {
    if (below(2) == 0) return type;
    if (type >= 0 && type <= 3) return below(2) == 0 ? 1 : 4 + type;
    if (type >= 4 && type <= 9) return below(2) == 0 ? 1 + below(3) : 5 + below(3);
    for (int k = 0; k < 6; k++) {
      int t = type >= 64 ? 64 + plainType() : toldOne();
      if (model.is(t, type) == 1) return t;
    }
    return type;
  }

  private int[] newType() {
    return below(2) == 0 ? new int[] {1} : new int[] {0, below(2) == 0 ? 8 : toldOne()};
  }

  private int[] newMember() {
    boolean face = below(3) > 0;
    int owner = face ? toldFace(true) : toldFace(false);
    int marks = rarely() ? below(20) - 2 : face ? (below(4) == 0 ? 0 : 4) : below(3) == 0 ? below(16) : 0;
    int count = rarely() ? below(7) - 1 : below(4) == 0 ? below(5) : below(3);
    int[] p = new int[4];
    for (int i = 0; i < 4; i++) p[i] = face ? simple() : below(2) == 0 ? toldFace(true) : type();
    if (!face && below(3) == 0 && count >= 1 && count <= 4) {
      marks |= 8;
      p[count - 1] = 64 + (below(2) == 0 ? toldFace(true) : plainType());
    }
    return new int[] {3, owner, name(), marks, result(), count, p[0], p[1], p[2], p[3]};
  }

  /** The call c, its first number being the method's place in METHODS, on an object of either class. */
  private static int answer(Object x, Method[] methods, int[] c) {
    Object[] given = new Object[c.length - 1];
    for (int i = 0; i < given.length; i++) given[i] = c[i + 1];
    try {
      return (Integer) methods[c[0]].invoke(x, given);
    } catch (ReflectiveOperationException e) {
      throw new IllegalStateException(Arrays.toString(c), e);
    }
  }

  private static Method[] methodsOf(Class<?> type) {
    Method[] found = new Method[METHODS.length];
    for (Method m : type.getDeclaredMethods()) {
      int place = Arrays.asList(METHODS).indexOf(m.getName());
      if (place >= 0 && !Modifier.isPrivate(m.getModifiers())) found[place] = m;
    }
    return found;
  }

  /** Whether the run goes on: the answer is the one due, and the object has not had all its calls. */
  private boolean check(MemberChoice x, int[] c, int run) {
    left--;
    int want = answer(model, MODEL, c);
    int got = answer(x, REAL, c);
    if (c[0] <= 1 && want >= 0) {
      isFace[told] = c[0] == 1;
      told++;
    }
    if (c[0] == 3 && want >= 0) kept.add(c);
    if (c[0] == 6 && want >= 0) functionsFound++;
    if (c[0] == 15 && want == 0) specialNo++;
    if (c[0] == 15 && model.wasFiner()) finer++;
    latest = got;
    if (got == want) return left > 0;
    wrong++;
    System.out.println("run " + run + ": call " + Arrays.toString(c) + " answered " + got + ", due is " + want);
    return false;
  }

  private boolean checkChoice(MemberChoice x, int run, int answer) {
    chosen.merge(Math.min(answer, 0), 1, Integer::sum);
    phases[model.phase()]++;
    if (!check(x, new int[] {13}, run)) return false;
    for (int i = 0; i < 60; i++) {
      if (!check(x, new int[] {14, i}, run)) return false;
      if (model.applied(i) == NONE) return true;
      for (int j = 0; model.applied(j) != NONE; j++) {
        if (!check(x, new int[] {15, model.applied(i), model.applied(j)}, run)) return false;
      }
    }
    return true;
  }

  private void run(int number) {
    MemberChoice x = new MemberChoice();
    for (int k = 0; k < CALLS; k++) {
      int[] c = call();
      if (!check(x, c, number)) return;
      boolean look = c[0] == 12 && below(2) == 0;
      if (look && !checkChoice(x, number, latest)) return;
    }
  }

  public static void main(String[] args) {
    for (int seed = 1; seed <= RUNS && wrong < 10; seed++) new ModelRuns(seed).run(seed);
    System.out.println("choices by answer " + chosen + ", by phase " + Arrays.toString(phases)
        + ", functions " + functionsFound + ", not as special " + specialNo
        + ", finer functions " + finer);
    boolean thin = chosen.size() < 7 || phases[1] < 1000 || phases[2] < 1000 || phases[3] < 1000;
    thin |= specialNo < 1000 || finer < 1000;
    if (thin && wrong == 0) System.out.println("the runs do not reach enough");
    System.out.println(wrong == 0 ? "all answers are as due" : wrong + " answers are not as due");
    if (wrong != 0 || thin) System.exit(1);
  }
}
