import java.util.ArrayDeque;
import java.util.ArrayList;
import java.util.Arrays;
import java.util.List;
import java.util.Random;
import java.util.TreeMap;

/** Random runs of calls, each answer held against PlainModel's; the seeds are fixed, so the runs are always the same. */
public final class ModelRuns {
  private static final int RUNS = 6000, CALLS = 512;
  private static final int[] ODD = {-2147483648, 2147483647, -9, -8, -3, -2, -1, 10, 11, 15, 40, 60, 63, 64, 74, 79, 104, 128};
  private static final TreeMap<Integer, Integer> chosen = new TreeMap<>();
  private static final int[] phases = new int[4];
  private static int wrong = 0;
  private static int specialNo = 0, functionsFound = 0;

  private final Random random;
  private final int names, odd, pool;
  private final List<int[]> kept = new ArrayList<>();
  private final ArrayDeque<int[]> ahead = new ArrayDeque<>();
  private final PlainModel model = new PlainModel();
  private final boolean[] isFace = new boolean[24];
  private int told = 0;

  private ModelRuns(int seed) {
    random = new Random(seed);
    names = 1 + random.nextInt(3);
    odd = random.nextInt(4) == 0 ? 8 : 60;
    pool = 2 + random.nextInt(22);
  }

  private int below(int n) { return random.nextInt(n); }

  private boolean rarely() { return below(odd) == 0; }

  private int oddOne() { return ODD[below(ODD.length)]; }

  private int toldOne() { return rarely() ? oddOne() : 16 + below(Math.max(told, 1)); }

  private int toldFace(boolean wanted) {
    for (int k = 0; k < 6; k++) {
      int t = below(Math.max(told, 1));
      if (isFace[t] == wanted) return 16 + t;
    }
    return toldOne();
  }

  private int plainType() {
    int k = below(10);
    return k < 3 ? below(4) : k < 5 ? 4 + below(6) : toldOne();
  }

  private int type() {
    if (rarely()) return oddOne();
    return below(6) == 0 ? 64 + plainType() : plainType();
  }

  private int simple() { return below(3) == 0 ? type() : below(3) == 0 ? 5 : 1; }

  private int result() { return below(3) == 0 ? NONE : below(2) == 0 ? simple() : type(); }

  private static final int NONE = -1;

  private int name() { return rarely() ? oddOne() : below(names); }

  private int from() { return below(2) == 0 ? NONE : toldOne(); }

  private int[] call() {
    if (told < 3) return newType();
    if (!ahead.isEmpty()) return ahead.poll();
    if (!kept.isEmpty() && below(12) == 0) {
      aim(kept.get(below(kept.size())));
      return ahead.poll();
    }
    int k = below(100);
    if (k < 4 && told < pool) return newType();
    if (k < 10) return new int[] {2, below(2) == 0 ? toldFace(true) : toldOne(), toldFace(true)};
    if (k < 26) return newMember();
    if (k < 33) return new int[] {4, type(), type()};
    if (k < 37) return new int[] {5, type(), type()};
    if (k < 41) return new int[] {6, below(2) == 0 ? toldFace(true) : type()};
    if (k < 44) return new int[] {7, toldOne(), name(), from()};
    if (k < 48) return new int[] {8, toldOne(), name(), from(), below(5) - 1};
    if (k < 54) return new int[] {9, type()};
    if (k < 64) return new int[] {10, rarely() ? below(5) - 1 : below(3), rarely() ? 2 : below(4) == 0 ? 0 : 1, simple(), simple(), result()};
    if (k < 72) return new int[] {11};
    if (k < 86) return new int[] {12, below(2) == 0 ? toldFace(false) : toldOne(), name(), from(), rarely() ? 2 : below(5) == 0 ? 1 : 0};
    if (k < 88) return new int[] {13};
    if (k < 92) return new int[] {14, below(6) - 1};
    if (k < 98) return new int[] {15, below(kept.size() + 2) - 1, below(kept.size() + 2) - 1};
    return new int[] {16, below(4) - (rarely() ? 2 : 0)};
  }

  /** Calls that ask for one MEMBER, with ARGUMENTS that often fit it. */
  private void aim(int[] m) {
    ahead.add(new int[] {11});
    boolean varied = (m[3] & 8) != 0;
    int n = varied && below(3) > 0 ? m[5] - 1 + below(3) : m[5];
    for (int i = 0; i < n; i++) {
      boolean spread = varied && i >= m[5] - 1 && (n != m[5] || below(2) == 0);
      ahead.add(argumentFor(spread ? m[6 + m[5] - 1] - 64 : m[6 + i]));
    }
    int type = m[1];
    for (int k = 0; k < 4 && below(2) == 0; k++) {
      int t = toldOne();
      if (model.is(t, m[1]) == 1) type = t;
    }
    ahead.add(new int[] {12, type, m[2], (m[3] & 2) != 0 && below(3) > 0 ? m[1] : from(), below(8) == 0 ? 1 : 0});
  }

  private int[] argumentFor(int type) {
    int f = model.function(type);
    if (f >= 0 && below(6) > 0) {
      int[] m = kept.get(f);
      int result = m[4] == NONE ? NONE : near(m[4]);
      return new int[] {10, m[5], below(3) == 0 ? 0 : 1, m[6], m[7], result};
    }
    return new int[] {9, below(8) == 0 ? 10 : near(type)};
  }

  private int near(int type) {
    if (below(2) == 0) return type;
    if (type >= 0 && type <= 3) return below(2) == 0 ? 1 : 4 + type;
    if (type >= 4 && type <= 9) return below(2) == 0 ? 1 + below(3) : 5 + below(3);
    for (int k = 0; k < 6; k++) {
      int t = type >= 64 ? 64 + plainType() : toldOne();
      if (model.is(t, type) == 1) return t;
    }
    return type;
  }

  private int[] newType() {
    return below(2) == 0 ? new int[] {1} : new int[] {0, below(2) == 0 ? 8 : toldOne()};
  }

  private int[] newMember() {
    boolean face = below(3) > 0;
    int owner = face ? toldFace(true) : toldFace(false);
    int marks = rarely() ? below(20) - 2 : face ? (below(4) == 0 ? 0 : 4) : below(3) == 0 ? below(16) : 0;
    int count = rarely() ? below(7) - 1 : below(4) == 0 ? below(5) : below(3);
    int[] p = new int[4];
    for (int i = 0; i < 4; i++) p[i] = face ? simple() : below(2) == 0 ? toldFace(true) : type();
    if (!face && below(3) == 0 && count >= 1 && count <= 4) {
      marks |= 8;
      p[count - 1] = 64 + (below(2) == 0 ? toldFace(true) : plainType());
    }
    return new int[] {3, owner, name(), marks, result(), count, p[0], p[1], p[2], p[3]};
  }

  private static int real(MemberChoice x, int[] c) {
    switch (c[0]) {
      case 0: return x.cls(c[1]);
      case 1: return x.face();
      case 2: return x.below(c[1], c[2]);
      case 3: return x.member(c[1], c[2], c[3], c[4], c[5], c[6], c[7], c[8], c[9]);
      case 4: return x.is(c[1], c[2]);
      case 5: return x.fits(c[1], c[2]);
      case 6: return x.function(c[1]);
      case 7: return x.seen(c[1], c[2], c[3]);
      case 8: return x.seenAt(c[1], c[2], c[3], c[4]);
      case 9: return x.argument(c[1]);
      case 10: return x.lambda(c[1], c[2], c[3], c[4], c[5]);
      case 11: return x.wipe();
      case 12: return x.choose(c[1], c[2], c[3], c[4]);
      case 13: return x.phase();
      case 14: return x.applied(c[1]);
      case 15: return x.special(c[1], c[2]);
      default: return x.count(c[1]);
    }
  }

  private static int due(PlainModel x, int[] c) {
    switch (c[0]) {
      case 0: return x.cls(c[1]);
      case 1: return x.face();
      case 2: return x.below(c[1], c[2]);
      case 3: return x.member(c[1], c[2], c[3], c[4], c[5], c[6], c[7], c[8], c[9]);
      case 4: return x.is(c[1], c[2]);
      case 5: return x.fits(c[1], c[2]);
      case 6: return x.function(c[1]);
      case 7: return x.seen(c[1], c[2], c[3]);
      case 8: return x.seenAt(c[1], c[2], c[3], c[4]);
      case 9: return x.argument(c[1]);
      case 10: return x.lambda(c[1], c[2], c[3], c[4], c[5]);
      case 11: return x.wipe();
      case 12: return x.choose(c[1], c[2], c[3], c[4]);
      case 13: return x.phase();
      case 14: return x.applied(c[1]);
      case 15: return x.special(c[1], c[2]);
      default: return x.count(c[1]);
    }
  }

  private boolean check(MemberChoice x, int[] c, int run) {
    int want = due(model, c);
    int got = real(x, c);
    if (c[0] <= 1 && want >= 0) {
      isFace[told] = c[0] == 1;
      told++;
    }
    if (c[0] == 3 && want >= 0) kept.add(c);
    if (c[0] == 6 && want >= 0) functionsFound++;
    if (c[0] == 15 && want == 0) specialNo++;
    if (got == want) return true;
    wrong++;
    System.out.println("run " + run + ": call " + Arrays.toString(c) + " answered " + got + ", due is " + want);
    return false;
  }

  private boolean checkChoice(MemberChoice x, int run, int answer) {
    chosen.merge(Math.min(answer, 0), 1, Integer::sum);
    phases[model.phase()]++;
    if (!check(x, new int[] {13}, run)) return false;
    for (int i = 0; i < 60; i++) {
      if (!check(x, new int[] {14, i}, run)) return false;
      if (model.applied(i) == NONE) return true;
      for (int j = 0; model.applied(j) != NONE; j++) {
        if (!check(x, new int[] {15, model.applied(i), model.applied(j)}, run)) return false;
      }
    }
    return true;
  }

  private void run(int number) {
    MemberChoice x = new MemberChoice();
    for (int k = 0; k < CALLS; k++) {
      int[] c = call();
      if (!check(x, c, number)) return;
      boolean look = c[0] == 12 && below(2) == 0;
      if (look && !checkChoice(x, number, real(x, c))) return;
    }
  }

  public static void main(String[] args) {
    for (int seed = 1; seed <= RUNS && wrong < 10; seed++) new ModelRuns(seed).run(seed);
    System.out.println("choices by answer " + chosen + ", by phase " + Arrays.toString(phases)
        + ", functions " + functionsFound + ", not as special " + specialNo);
    boolean thin = chosen.size() < 7 || phases[1] < 1000 || phases[2] < 1000 || phases[3] < 1000 || specialNo < 1000;
    if (thin && wrong == 0) System.out.println("the runs do not reach enough");
    System.out.println(wrong == 0 ? "all answers are as due" : wrong + " answers are not as due");
    if (wrong != 0 || thin) System.exit(1);
  }
}
