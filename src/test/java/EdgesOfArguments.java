/** The limits that the document tells of ARGUMENTS and counts: section 3, promises 11 to 13 and 18. */
public final class EdgesOfArguments extends DocumentTest {
  public static void main(String[] args) throws Exception { runAll(EdgesOfArguments.class); }

  /** Promise 11: "BAD: no TYPE"; null's is one here. */
  static void promise11TypesInsideAndOutside() {
    for (int told : new int[] {0, 1, 5, 23, 24}) {
      for (int t : NUMBERS) {
        Counted x = withClasses(told);
        due(isType(t, told) ? 1 : BAD, x.argument(t), "argument " + t);
        due(isType(t, told) ? 1 : 0, x.count(2), "argument " + t);
      }
    }
  }

  /** Promise 11: "One ARGUMENT more: how many. BAD: .. there are 5". */
  static void promise11FullAtFive() {
    for (int t : allTypes(2)) {
      Counted x = withFaces(2);
      for (int k = 1; k <= 5; k++) due(k, x.argument(t));
      due(BAD, x.argument(t));
      due(BAD, x.argument(INT));
      due(5, x.count(2));
      due(5, x.wipe());
    }
  }

  /** Promises 11, 12: TYPES and LAMBDAS share the five. */
  static void promise11SharedWithLambdas() {
    for (int lambdas = 0; lambdas <= 5; lambdas++) {
      Counted x = new Counted();
      for (int k = 1; k <= 5; k++) due(k, k <= lambdas ? x.lambda(0, 0, 0, 0, NONE) : x.argument(NULL));
      due(BAD, x.argument(INT));
      due(BAD, x.lambda(0, 0, 0, 0, NONE));
      due(BAD, x.lambda(2, 1, INT, INT, INT));
      due(5, x.count(2));
    }
  }

  /** Promise 11: the first and the fifth ARGUMENT both matter to the choice. */
  static void promise11EachOfFiveMatters() {
    for (int place = 0; place < 5; place++) {
      Counted x = withClasses(1);
      due(0, x.add(16, 0, VARIED, NONE, ARRAY + INT));
      due(1, x.add(16, 0, VARIED, NONE, ARRAY + DOUBLE));
      int[] given = {INT, INT, INT, INT, INT};
      due(0, x.chooseFor(16, 0, given));
      given[place] = LONG;
      due(1, x.chooseFor(16, 0, given));
      given[place] = BOOL;
      due(UNFIT, x.chooseFor(16, 0, given));
    }
  }

  /** Promise 11: what a refused call leaves. */
  static void promise11Refused() {
    for (int t : new int[] {LEAST, -1, 11, 15, 16, 40, 63, 74, 80, MOST}) refused(NOTHING, "argument", t);
    for (int t : new int[] {LEAST, -1, 11, 15, 21, 40, 63, 74, 79, 85, MOST}) refused(SOME, "argument", t);
    for (int t : new int[] {LEAST, -1, 0, 10, 16, 39, 40, 103, 104, MOST}) refused(FULL, "argument", t);
  }

  /** Promise 12: "BAD: n": 0 .. 2 are good, TOLD or not. */
  static void promise12ParameterCountsInsideAndOutside() {
    for (int n : NUMBERS) {
      for (int told = 0; told < 2; told++) {
        Counted x = new Counted();
        boolean good = n >= 0 && n <= 2;
        due(good ? 1 : BAD, x.lambda(n, told, INT, INT, INT), "lambda of " + n);
        due(good ? 1 : 0, x.count(2), "lambda of " + n);
      }
    }
  }

  /** Promise 12: "BAD: .. told": 0 and 1 are good. */
  static void promise12ToldInsideAndOutside() {
    for (int told : NUMBERS) {
      for (int n = 0; n <= 2; n++) {
        Counted x = new Counted();
        boolean good = told == 0 || told == 1;
        due(good ? 1 : BAD, x.lambda(n, told, INT, INT, NONE), "told " + told);
        due(good ? 1 : 0, x.count(2), "told " + told);
      }
    }
  }

  /** Promise 12: "BAD: .. a TYPE (null's is none here)": of the n parameters of a TOLD one, NONE being none either. */
  static void promise12ParametersInsideAndOutside() {
    for (int told : new int[] {0, 5, 24}) {
      for (int t : NUMBERS) {
        int want = isDeclared(t, told) ? 1 : BAD;
        due(want, withFaces(told).lambda(1, 1, t, INT, INT), "the only one " + t);
        due(want, withFaces(told).lambda(2, 1, t, INT, INT), "the first " + t);
        due(want, withFaces(told).lambda(2, 1, INT, t, INT), "the second " + t);
      }
    }
  }

  /** Promise 12: "(those beyond n do not matter)", nor do any of one that is not TOLD. */
  static void promise12OthersDoNotMatter() {
    for (int t : NUMBERS) {
      due(1, new Counted().lambda(0, 1, t, t, NONE), "beyond 0: " + t);
      due(1, new Counted().lambda(1, 1, INT, t, NONE), "beyond 1: " + t);
      for (int n = 0; n <= 2; n++) due(1, new Counted().lambda(n, 0, t, t, NONE), "not told: " + t);
    }
  }

  /** Promise 12: "BAD: .. result": a TYPE or NONE; null's is none here. */
  static void promise12ResultsInsideAndOutside() {
    for (int told : new int[] {0, 5, 24}) {
      for (int result : NUMBERS) {
        int want = result == NONE || isDeclared(result, told) ? 1 : BAD;
        for (int n = 0; n <= 2; n++) {
          due(want, withFaces(told).lambda(n, 0, INT, INT, result), "result " + result);
          due(want, withFaces(told).lambda(n, 1, INT, INT, result), "result " + result);
        }
      }
    }
  }

  /** Promise 12: "how many ARGUMENTS. BAD: .. there are 5". */
  static void promise12FullAtFive() {
    for (int n = 0; n <= 2; n++) {
      for (int told = 0; told < 2; told++) {
        Counted x = new Counted();
        for (int k = 1; k <= 5; k++) due(k, x.lambda(n, told, INT, LONG, k % 2 == 0 ? NONE : k));
        due(BAD, x.lambda(n, told, INT, LONG, NONE));
        due(BAD, x.lambda(0, 0, 0, 0, NONE));
        due(BAD, x.argument(INT));
        due(5, x.count(2));
      }
    }
  }

  /** Promise 12: the fifth LAMBDA is kept as the first is: n, TOLD, both parameters, the result. */
  static void promise12EachOfFiveMatters() {
    for (int place = 0; place < 5; place++) {
      Counted x = new Counted();
      int f = x.addFunction(LONG, INT, BOXED_INT), c = x.cls(OBJECT);
      due(1, x.add(c, 0, VARIED, NONE, ARRAY + f));
      due(1, chooseForFive(x, c, place, 2, 1, INT, BOXED_INT, LONG));
      due(1, chooseForFive(x, c, place, 2, 1, INT, BOXED_INT, INT));
      due(UNFIT, chooseForFive(x, c, place, 2, 1, LONG, BOXED_INT, LONG));
      due(UNFIT, chooseForFive(x, c, place, 2, 1, INT, INT, LONG));
      due(UNFIT, chooseForFive(x, c, place, 2, 1, INT, BOXED_INT, DOUBLE));
      due(1, chooseForFive(x, c, place, 2, 0, LONG, LONG, DOUBLE));
      due(UNMEANT, chooseForFive(x, c, place, 1, 1, INT, BOXED_INT, LONG));
      due(UNMEANT, chooseForFive(x, c, place, 2, 1, INT, BOXED_INT, NONE));
    }
  }

  /** Five LAMBDAS that fit but for the one at that place, which is as told. */
  private static int chooseForFive(Counted x, int type, int place, int n, int told, int p, int q, int result) {
    x.wipe();
    for (int k = 0; k < 5; k++) {
      if (k == place) x.lambda(n, told, p, q, result);
      else x.lambda(2, 1, INT, BOXED_INT, LONG);
    }
    return x.choose(type, 0, NONE, 0);
  }

  /** Promise 12: what a refused call leaves. */
  static void promise12Refused() {
    for (State state : new State[] {NOTHING, SOME, FULL}) {
      for (int n : new int[] {LEAST, -1, 3, MOST}) refused(state, "lambda", n, 0, 1, 1, 1);
      for (int told : new int[] {LEAST, -1, 2, MOST}) refused(state, "lambda", 1, told, 1, 1, 1);
      for (int t : new int[] {LEAST, -1, 10, 11, 15, 40, 63, 74, 104, MOST}) {
        refused(state, "lambda", 1, 1, t, 1, 1);
        refused(state, "lambda", 2, 1, t, 1, 1);
        refused(state, "lambda", 2, 1, 1, t, 1);
      }
      for (int t : new int[] {LEAST, -2, 10, 11, 15, 40, 63, 74, 104, MOST}) refused(state, "lambda", 1, 1, 1, 1, t);
    }
    refused(FULL, "lambda", 0, 0, 0, 0, NONE);
    refused(FULL, "lambda", 1, 0, 0, 0, INT);
    refused(FULL, "lambda", 2, 1, 1, 1, 39);
  }

  /** Promise 13: "No ARGUMENTS: how many there were", from none to five, and none behind it. */
  static void promise13FromNoneToFive() {
    for (int many = 0; many <= 5; many++) {
      Counted x = new Counted();
      for (int k = 0; k < many; k++) {
        if (k % 2 == 0) x.argument(INT);
        else x.lambda(1, 0, 0, 0, NONE);
      }
      due(many, x.wipe());
      due(0, x.count(2));
      due(0, x.wipe());
      for (int k = 1; k <= 5; k++) due(k, x.argument(INT));
      due(BAD, x.argument(INT));
      due(5, x.wipe());
      due(0, x.wipe());
    }
  }

  /** Promise 13: those that were refused, there being five, are not counted. */
  static void promise13RefusedOnesAreNotCounted() {
    Counted x = new Counted();
    for (int k = 0; k < 9; k++) x.argument(INT);
    for (int k = 0; k < 9; k++) x.lambda(0, 1, 0, 0, NONE);
    due(5, x.wipe());
    x.argument(11);
    x.lambda(3, 0, 0, 0, NONE);
    due(0, x.wipe());
  }

  /** Promise 13: nothing is left of a wiped ARGUMENT, at the first place and at the fifth. */
  static void promise13NothingIsLeft() {
    for (int place = 0; place < 5; place++) {
      Counted x = new Counted();
      int f = x.addFunction(INT, INT), c = x.cls(OBJECT);
      due(1, x.add(c, 0, VARIED, NONE, ARRAY + OBJECT));
      due(2, x.add(c, 0, VARIED, NONE, ARRAY + f));
      due(2, chooseWithALambda(x, c, place, f));
      int[] types = {f, f, f, f, f};
      due(2, x.chooseFor(c, 0, types));
      types[place] = INT;
      due(1, x.chooseFor(c, 0, types));
      due(2, chooseWithALambda(x, c, place, f));
      due(5, x.wipe());
      due(2, x.choose(c, 0, NONE, 0));
    }
  }

  private static int chooseWithALambda(Counted x, int type, int place, int f) {
    x.wipe();
    for (int k = 0; k < 5; k++) {
      if (k == place) x.lambda(1, 1, INT, 0, INT);
      else x.argument(f);
    }
    return x.choose(type, 0, NONE, 0);
  }

  /** Promise 13: TYPES, MEMBERS and the latest choice stay. */
  static void promise13TheRestStays() {
    for (State state : new State[] {SOME, FULL}) {
      Counted x = state.fresh(), y = state.fresh();
      due(y.count(2), x.wipe());
      due(y.count(0), x.count(0));
      due(y.count(1), x.count(1));
      due(y.phase(), x.phase());
      for (int m = 0; m < 60; m++) {
        due(y.applied(m), x.applied(m));
        due(y.special(m, 12), x.special(m, 12));
        due(y.special(4, m), x.special(4, m));
      }
    }
  }

  /** Promise 18: "what = 0 .., 1 .., 2 ... BAD" for all others. */
  static void promise18WhatInsideAndOutside() {
    for (int what : NUMBERS) {
      boolean good = what >= 0 && what <= 2;
      due(good ? 0 : BAD, NOTHING.fresh().count(what), "count " + what);
      due(what == 0 ? 5 : what == 1 ? 7 : what == 2 ? 2 : BAD, SOME.fresh().count(what), "count " + what);
      due(what == 0 ? 24 : what == 1 ? 60 : what == 2 ? 5 : BAD, FULL.fresh().count(what), "count " + what);
    }
  }

  /** Promise 18: each count goes from none to its most, one by one, and the others stay. */
  static void promise18FromNoneToMost() {
    Counted x = new Counted();
    for (int t = 1; t <= 24; t++) {
      x.face();
      counts(x, t, 0, 0);
    }
    for (int a = 1; a <= 5; a++) {
      x.argument(INT);
      counts(x, 24, 0, a);
    }
    for (int m = 1; m <= 60; m++) {
      x.add(16, 0, PLAIN, NONE, m % 10, m / 10);
      counts(x, 24, m, 5);
    }
    x.face();
    x.cls(OBJECT);
    x.argument(INT);
    x.add(16, 1, PLAIN, NONE);
    counts(x, 24, 60, 5);
    x.wipe();
    counts(x, 24, 60, 0);
  }

  private static void counts(Counted x, int types, int members, int arguments) {
    due(types, x.count(0));
    due(members, x.count(1));
    due(arguments, x.count(2));
  }

  /** Promise 18: what a refused call leaves. */
  static void promise18Refused() {
    for (State state : new State[] {NOTHING, SOME, FULL}) {
      for (int what : new int[] {LEAST, -1, 3, MOST}) refused(state, "count", what);
    }
  }
}
