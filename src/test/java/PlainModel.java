import java.util.ArrayList;
import java.util.List;

/** The document told a second time: no caches, no bit rows, every question walked through its words. */
final class PlainModel {
  static final int NONE = -1, BAD = -2, UNSEEN = -3, UNMEANT = -4, UNFIT = -5, AMBIGUOUS = -6, INSTANCE = -7;

  private record Told(boolean isFace, int parent, List<Integer> faces) { }

  private record Method(int number, int owner, int name, int marks, int result, List<Integer> parameters) {
    boolean isStatic() { return (marks & 1) == 1; }
    boolean isPrivate() { return (marks >> 1 & 1) == 1; }
    boolean isAbstract() { return (marks >> 2 & 1) == 1; }
    boolean isVaried() { return (marks >> 3 & 1) == 1; }
    int last() { return parameters.size() - 1; }
    int spread() { return parameters.get(last()) - 64; }
    int at(int i, int phase) { return phase == 3 && i >= last() ? spread() : parameters.get(i); }
  }

  private record Given(boolean lambda, boolean told, int type, int n, List<Integer> parameters) { }

  private final List<Told> told = new ArrayList<>();
  private final List<Method> methods = new ArrayList<>();
  private final List<Given> given = new ArrayList<>();
  private int phase = 0;
  private List<Method> applied = new ArrayList<>();
  private boolean[][] specials = new boolean[60][60];
  private boolean finer = false;

  private boolean isTold(int t) { return 16 <= t && t < 16 + told.size(); }
  private boolean isFace(int t) { return isTold(t) && told.get(t - 16).isFace(); }
  private boolean isPlain(int t) { return 0 <= t && t <= 9 || isTold(t); }
  private boolean isArray(int t) { return 64 <= t && isPlain(t - 64); }
  private boolean isType(int t) { return isPlain(t) || t == 10 || isArray(t); }
  private boolean isValue(int t) { return isType(t) && t != 10; }
  private static boolean primitive(int t) { return 0 <= t && t <= 3; }
  private static boolean reference(int t) { return t >= 4; }

  int cls(int parent) {
    if (told.size() == 24 || parent != 8 && (!isTold(parent) || isFace(parent))) return BAD;
    told.add(new Told(false, parent, new ArrayList<>()));
    return 15 + told.size();
  }

  int face() {
    if (told.size() == 24) return BAD;
    told.add(new Told(true, 8, new ArrayList<>()));
    return 15 + told.size();
  }

  int below(int type, int face) {
    if (!isTold(type) || !isFace(face) || goes(face, type)) return BAD;
    List<Integer> faces = told.get(type - 16).faces();
    if (faces.size() == 4 || faces.contains(face)) return BAD;
    faces.add(face);
    return faces.size();
  }

  int member(int type, int name, int marks, int result, int count, int p, int q, int r, int s) {
    if (!isTold(type) || name < 0 || name > 15 || marks < 0 || marks > 15 || count < 0 || count > 4) return BAD;
    if (result != NONE && !isValue(result) || methods.size() == 60) return BAD;
    List<Integer> parameters = List.of(p, q, r, s).subList(0, count);
    for (int t : parameters) if (!isValue(t)) return BAD;
    Method m = new Method(methods.size(), type, name, marks, result, parameters);
    if (m.isAbstract() && (m.isStatic() || m.isPrivate() && isFace(type))) return BAD;
    if (m.isVaried() && (count == 0 || !isArray(parameters.get(count - 1)))) return BAD;
    for (Method o : methods) {
      if (o.owner() == type && o.name() == name && o.parameters().equals(parameters)) return BAD;
    }
    methods.add(m);
    return m.number();
  }

  /** Whether s IS t, by walking. */
  private boolean goes(int s, int t) {
    if (s == t || s == 1 && t == 2 || s == 2 && t == 3 || s == 1 && t == 3) return true;
    if (primitive(s) || primitive(t)) return false;
    if (s == 10 || t == 8) return true;
    if (t == 9) return s == 5 || s == 6 || s == 7;
    if (isArray(s)) return isArray(t) && reference(s - 64) && goes(s - 64, t - 64);
    if (!isTold(s)) return false;
    if (goes(told.get(s - 16).parent(), t)) return true;
    for (int f : told.get(s - 16).faces()) if (goes(f, t)) return true;
    return false;
  }

  private boolean suits(int s, int t) {
    return goes(s, t) || primitive(s) && goes(s + 4, t) || s >= 4 && s <= 7 && goes(s - 4, t);
  }

  int is(int s, int t) { return !isType(s) || !isType(t) ? BAD : goes(s, t) ? 1 : 0; }

  int fits(int s, int t) { return !isType(s) || !isType(t) ? BAD : suits(s, t) ? 1 : 0; }

  private boolean overridden(Method m, int t) {
    if (m.isStatic() || m.isPrivate()) return false;
    for (Method o : methods) {
      if (o.isStatic() || o.isPrivate() || o.name() != m.name() || !o.parameters().equals(m.parameters())) continue;
      if (goes(t, o.owner()) && goes(o.owner(), m.owner()) && o.owner() != m.owner()) return true;
    }
    return false;
  }

  private List<Method> allSeen(int t, int name, int from) {
    List<Method> out = new ArrayList<>();
    for (Method m : methods) {
      if (m.name() != name || !goes(t, m.owner()) || m.isPrivate() && m.owner() != from || overridden(m, t)) continue;
      out.add(m);
    }
    return out;
  }

  private Method functionOf(int t) {
    if (!isFace(t)) return null;
    List<Method> all = new ArrayList<>();
    for (int name = 0; name < 16; name++) {
      for (Method m : allSeen(t, name, t)) if (m.isAbstract()) all.add(m);
    }
    Method least = null;
    for (Method m : all) {
      if (m.name() != all.get(0).name() || !m.parameters().equals(all.get(0).parameters())) return null;
      if (least == null || m.number() < least.number()) least = m;
    }
    return least;
  }

  int function(int type) {
    if (!isType(type)) return BAD;
    Method f = functionOf(type);
    return f == null ? NONE : f.number();
  }

  private boolean askable(int type, int name, int from) {
    return isTold(type) && name >= 0 && name <= 15 && (from == NONE || isTold(from));
  }

  int seen(int type, int name, int from) {
    return askable(type, name, from) ? allSeen(type, name, from).size() : BAD;
  }

  int seenAt(int type, int name, int from, int i) {
    if (!askable(type, name, from)) return BAD;
    List<Method> all = allSeen(type, name, from);
    return i < 0 || i >= all.size() ? NONE : all.get(i).number();
  }

  int argument(int type) {
    if (!isType(type) || given.size() == 5) return BAD;
    given.add(new Given(false, false, type, 0, List.of()));
    return given.size();
  }

  int lambda(int n, int toldOne, int p, int q, int result) {
    if (n < 0 || n > 2 || toldOne != 0 && toldOne != 1 || result != NONE && !isValue(result)) return BAD;
    List<Integer> parameters = toldOne == 1 ? List.of(p, q).subList(0, n) : List.of();
    for (int t : parameters) if (!isValue(t)) return BAD;
    if (given.size() == 5) return BAD;
    given.add(new Given(true, toldOne == 1, result, n, parameters));
    return given.size();
  }

  int wipe() {
    int before = given.size();
    given.clear();
    return before;
  }

  private boolean shaped(int type, Given a) {
    Method f = functionOf(type);
    return f != null && f.parameters().size() == a.n() && (f.result() == NONE) == (a.type() == NONE);
  }

  private boolean meant(Method m) {
    int n = m.parameters().size();
    if (n != given.size() && !(m.isVaried() && n <= given.size() + 1)) return false;
    for (int i = 0; i < given.size(); i++) {
      if (!given.get(i).lambda()) continue;
      boolean itself = i < n && shaped(m.parameters().get(i), given.get(i));
      boolean spread = m.isVaried() && i >= n - 1 && shaped(m.spread(), given.get(i));
      if (!itself && !spread) return false;
    }
    return true;
  }

  private boolean accepts(int type, Given a, boolean boxing) {
    if (!a.lambda()) return boxing ? suits(a.type(), type) : goes(a.type(), type);
    if (!a.told()) return shaped(type, a);
    Method f = functionOf(type);
    if (f == null || !f.parameters().equals(a.parameters())) return false;
    if (a.type() == NONE) return f.result() == NONE;
    return f.result() != NONE && (boxing ? suits(a.type(), f.result()) : goes(a.type(), f.result()));
  }

  private boolean applies(Method m, int round) {
    if (round == 3 ? !m.isVaried() : m.parameters().size() != given.size()) return false;
    for (int i = 0; i < given.size(); i++) {
      if (!accepts(m.at(i, round), given.get(i), round > 1)) return false;
    }
    return true;
  }

  private boolean finer(int p, int q, Given a) {
    if (goes(p, q)) return true;
    Method f = functionOf(p);
    Method g = functionOf(q);
    if (!a.lambda() || !a.told() || f == null || g == null) return false;
    if (!f.parameters().equals(g.parameters()) || goes(q, p)) return false;
    finer = true;
    if (g.result() == NONE) return true;
    if (f.result() == NONE) return false;
    if (goes(f.result(), g.result())) return true;
    if (primitive(f.result()) && reference(g.result()) && primitive(a.type())) return true;
    return reference(f.result()) && primitive(g.result()) && reference(a.type());
  }

  /** Whether the latest choice looked at the results of two FUNCTIONS; for tests that want to know what they reach. */
  boolean wasFiner() { return finer; }

  private boolean asSpecial(Method m, Method o) {
    for (int i = 0; i < given.size(); i++) {
      if (!finer(m.at(i, phase), o.at(i, phase), given.get(i))) return false;
    }
    return phase != 3 || goes(m.spread(), o.spread());
  }

  int choose(int type, int name, int from, int fixed) {
    if (!askable(type, name, from) || fixed != 0 && fixed != 1) return BAD;
    phase = 0;
    finer = false;
    applied = new ArrayList<>();
    List<Method> all = allSeen(type, name, from);
    if (all.isEmpty()) return UNSEEN;
    all.removeIf(m -> !meant(m));
    if (all.isEmpty()) return UNMEANT;
    for (int round = 1; round <= 3 && applied.isEmpty(); round++) {
      for (Method m : all) if (applies(m, round)) applied.add(m);
      if (!applied.isEmpty()) phase = round;
    }
    if (applied.isEmpty()) return UNFIT;
    Method chosen = pick();
    if (chosen == null) return AMBIGUOUS;
    return fixed == 1 && !chosen.isStatic() ? INSTANCE : chosen.number();
  }

  private Method pick() {
    List<Method> best = new ArrayList<>();
    for (Method m : applied) {
      boolean all = true;
      for (Method o : applied) {
        specials[m.number()][o.number()] = asSpecial(m, o);
        all &= specials[m.number()][o.number()];
      }
      if (all) best.add(m);
    }
    if (best.size() == 1) return best.get(0);
    for (Method m : best) if (!m.parameters().equals(best.get(0).parameters())) return null;
    List<Method> concrete = new ArrayList<>();
    for (Method m : best) if (!m.isAbstract()) concrete.add(m);
    if (concrete.size() == 1) return concrete.get(0);
    return concrete.isEmpty() && !best.isEmpty() ? best.get(0) : null;
  }

  int phase() { return phase; }

  int applied(int i) { return i < 0 || i >= applied.size() ? NONE : applied.get(i).number(); }

  int special(int m, int o) {
    boolean both = false;
    boolean first = false;
    for (Method a : applied) first |= a.number() == m;
    for (Method a : applied) both |= first && a.number() == o;
    return !both ? NONE : specials[m][o] ? 1 : 0;
  }

  int count(int what) {
    return what == 0 ? told.size() : what == 1 ? methods.size() : what == 2 ? given.size() : BAD;
  }
}
