/** An object whose calls are counted: the answers behind its 512th are free, so a test that asks for them is wrong itself. */
final class Counted {
  static final int MOST_CALLS = 512;
  private final MemberChoice x = new MemberChoice();
  private int calls = 0;

  int calls() { return calls; }

  private MemberChoice next() {
    calls++;
    if (calls > MOST_CALLS) throw new IllegalStateException("the test makes more than 512 calls on one object");
    return x;
  }

  int cls(int parent) { return next().cls(parent); }

  int face() { return next().face(); }

  int below(int type, int face) { return next().below(type, face); }

  int member(int type, int name, int marks, int result, int count, int p, int q, int r, int s) {
    return next().member(type, name, marks, result, count, p, q, r, s);
  }

  int is(int s, int t) { return next().is(s, t); }

  int fits(int s, int t) { return next().fits(s, t); }

  int function(int type) { return next().function(type); }

  int seen(int type, int name, int from) { return next().seen(type, name, from); }

  int seenAt(int type, int name, int from, int i) { return next().seenAt(type, name, from, i); }

  int argument(int type) { return next().argument(type); }

  int lambda(int n, int told, int p, int q, int result) { return next().lambda(n, told, p, q, result); }

  int wipe() { return next().wipe(); }

  int choose(int type, int name, int from, int fixed) { return next().choose(type, name, from, fixed); }

  int phase() { return next().phase(); }

  int applied(int i) { return next().applied(i); }

  int special(int m, int o) { return next().special(m, o); }

  int count(int what) { return next().count(what); }

  int ask(Call c) {
    switch (c.name()) {
      case "cls": return cls(c.at(0));
      case "face": return face();
      case "below": return below(c.at(0), c.at(1));
      case "member": return member(c.at(0), c.at(1), c.at(2), c.at(3), c.at(4), c.at(5), c.at(6), c.at(7), c.at(8));
      case "is": return is(c.at(0), c.at(1));
      case "fits": return fits(c.at(0), c.at(1));
      case "function": return function(c.at(0));
      case "seen": return seen(c.at(0), c.at(1), c.at(2));
      case "seenAt": return seenAt(c.at(0), c.at(1), c.at(2), c.at(3));
      case "argument": return argument(c.at(0));
      case "lambda": return lambda(c.at(0), c.at(1), c.at(2), c.at(3), c.at(4));
      case "wipe": return wipe();
      case "choose": return choose(c.at(0), c.at(1), c.at(2), c.at(3));
      case "phase": return phase();
      case "applied": return applied(c.at(0));
      case "special": return special(c.at(0), c.at(1));
      case "count": return count(c.at(0));
      default: throw new IllegalArgumentException(c.name());
    }
  }

  /** A MEMBER whose parameters are told without those that do not matter. */
  int add(int type, int name, int marks, int result, int... p) {
    int[] all = {-77, -77, -77, -77};
    System.arraycopy(p, 0, all, 0, p.length);
    return member(type, name, marks, result, p.length, all[0], all[1], all[2], all[3]);
  }

  /** An INTERFACE with one abstract MEMBER of NAME 0: a FUNCTION. */
  int addFunction(int result, int... p) {
    int face = face();
    add(face, 0, 4, result, p);
    return face;
  }

  /** The choice for ARGUMENTS that are TYPES alone, from nowhere, in no static place. */
  int chooseFor(int type, int name, int... arguments) {
    wipe();
    for (int a : arguments) argument(a);
    return choose(type, name, MemberChoice.NONE, 0);
  }

  /** The choice for one LAMBDA with n parameters, int all. */
  int chooseForLambda(int type, int name, int n, int told, int result) {
    wipe();
    lambda(n, told, 1, 1, result);
    return choose(type, name, MemberChoice.NONE, 0);
  }
}
