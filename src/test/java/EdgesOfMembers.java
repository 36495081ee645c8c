/** The limits that the document tells of MEMBERS: section 2, promises 5 and 8 to 10. */
public final class EdgesOfMembers extends DocumentTest {
  private static final int GARBAGE = 12345;

  public static void main(String[] args) throws Exception { runAll(EdgesOfMembers.class); }

  /** A CLASS (16), an INTERFACE (17), and CLASSES up to so many. */
  private static Counted start(int told) {
    Counted x = new Counted();
    x.cls(OBJECT);
    x.face();
    for (int k = 2; k < told; k++) x.cls(OBJECT);
    return x;
  }

  /** So many MEMBERS of 16, of that NAME, with differing parameters. */
  private static void fill(Counted x, int name, int marks, int many) {
    for (int k = 0; k < many; k++) due(k, x.add(16, name, marks, NONE, k % 10, k / 10));
  }

  /** Promise 5: "BAD: no told TYPE". */
  static void promise05OwnersInsideAndOutside() {
    for (int told : new int[] {2, 3, 23, 24}) {
      for (int t : NUMBERS) due(isToldType(t, told) ? 0 : BAD, start(told).add(t, 0, PLAIN, NONE), "type " + t);
    }
    for (int t : NUMBERS) due(BAD, new Counted().add(t, 0, PLAIN, NONE), "type " + t + ", none told");
  }

  /** Promise 5: "BAD: no .. NAME (0 .. 15)". */
  static void promise05NamesInsideAndOutside() {
    for (int name : NUMBERS) {
      boolean good = name >= 0 && name <= 15;
      due(good ? 0 : BAD, start(2).add(16, name, PLAIN, NONE), "name " + name);
      due(good ? 0 : BAD, start(2).add(17, name, ABSTRACT, NONE), "name " + name);
    }
  }

  /** Promise 5: "BAD: no .. MARKS (0 .. 15; .. static and abstract [exclude each other] of all)", of a CLASS. */
  static void promise05MarksOfAClass() {
    for (int marks : NUMBERS) {
      boolean good = marks >= 0 && marks <= 15 && (marks & 5) != 5;
      due(good ? 0 : BAD, start(2).add(16, 0, marks, NONE, ARRAY + INT), "marks " + marks);
    }
  }

  /** Promise 5: "of an INTERFACE private and abstract exclude each other", too. */
  static void promise05MarksOfAnInterface() {
    for (int marks : NUMBERS) {
      boolean good = marks >= 0 && marks <= 15 && (marks & 5) != 5 && (marks & 6) != 6;
      due(good ? 0 : BAD, start(2).add(17, 0, marks, NONE, ARRAY + INT), "marks " + marks);
    }
  }

  /** Promise 5: "BAD: no .. result": a TYPE or NONE, but null's. */
  static void promise05ResultsInsideAndOutside() {
    for (int told : new int[] {2, 3, 23, 24}) {
      for (int result : NUMBERS) {
        boolean good = result == NONE || isDeclared(result, told);
        due(good ? 0 : BAD, start(told).add(16, 0, PLAIN, result), "result " + result);
      }
    }
  }

  /** Promise 5: "BAD: no .. parameters": 0 .. 4 of them. */
  static void promise05CountsInsideAndOutside() {
    for (int count : NUMBERS) {
      boolean good = count >= 0 && count <= 4;
      due(good ? 0 : BAD, start(2).member(16, 0, PLAIN, NONE, count, INT, INT, INT, INT), "count " + count);
      boolean varied = count >= 1 && count <= 4;
      int array = ARRAY + INT;
      due(varied ? 0 : BAD, start(2).member(16, 0, VARIED, NONE, count, array, array, array, array), "varied, count " + count);
    }
  }

  /** Promise 5: "BAD: no .. parameters": each a TYPE, but null's, and NONE is none, at each of the four places. */
  static void promise05ParametersInsideAndOutside() {
    for (int told : new int[] {2, 24}) {
      for (int place = 0; place < 4; place++) {
        for (int t : NUMBERS) {
          int[] p = {INT, INT, INT, INT};
          p[place] = t;
          due(isDeclared(t, told) ? 0 : BAD, start(told).add(16, 0, PLAIN, NONE, p), "parameter " + place + ": " + t);
        }
      }
    }
  }

  /** Promise 5: "with count parameters (p, q, r, s in order; the others do not matter)". */
  static void promise05OthersDoNotMatter() {
    for (int t : new int[] {LEAST, -1, NULL, 18, 40, 74, MOST}) {
      for (int count = 0; count <= 4; count++) {
        for (int place = 0; place < 4; place++) {
          int[] p = {INT, INT, INT, INT};
          p[place] = t;
          int want = place < count ? BAD : 0;
          due(want, start(2).member(16, 0, PLAIN, NONE, count, p[0], p[1], p[2], p[3]), "count " + count + ": " + t);
        }
      }
    }
  }

  /** Promise 5: in the order p, q, r, s. */
  static void promise05InOrder() {
    Counted x = start(2);
    due(0, x.add(16, 0, PLAIN, NONE, BOOL, INT, BOXED_LONG, ARRAY + INT));
    due(0, x.chooseFor(16, 0, BOOL, INT, BOXED_LONG, ARRAY + INT));
    due(UNFIT, x.chooseFor(16, 0, INT, BOOL, BOXED_LONG, ARRAY + INT));
    due(UNFIT, x.chooseFor(16, 0, BOOL, INT, ARRAY + INT, BOXED_LONG));
  }

  /** Section 2: "varied: one at least, the last an ARRAY", at every count; an ARRAY elsewhere will not do. */
  static void promise05VariedWantsAnArrayLast() {
    for (int t : NUMBERS) {
      boolean good = isArray(t, 3);
      due(good ? 0 : BAD, start(3).add(16, 0, VARIED, NONE, t), "varied " + t);
      due(good ? 0 : BAD, start(3).add(16, 0, VARIED, NONE, ARRAY + INT, t), "varied " + t);
      due(good ? 0 : BAD, start(3).add(16, 0, VARIED, NONE, INT, INT, INT, t), "varied " + t);
    }
    for (int count = 0; count <= 4; count++) {
      for (int place = 0; place < 4; place++) {
        int[] p = {INT, INT, INT, INT};
        p[place] = ARRAY + INT;
        int want = place == count - 1 ? 0 : BAD;
        due(want, start(2).member(16, 0, VARIED, NONE, count, p[0], p[1], p[2], p[3]), count + " " + place);
      }
    }
  }

  /** Promise 5: "BAD: .. there is such a one": the same TYPE, NAME and parameters, whatever the rest. */
  static void promise05EachOnce() {
    int[] p = {ARRAY + INT, INT, OBJECT, ARRAY + LONG};
    for (int count = 0; count <= 4; count++) {
      Counted x = start(3);
      due(0, x.member(16, 3, PLAIN, NONE, count, p[0], p[1], p[2], p[3]));
      due(BAD, x.member(16, 3, PLAIN, NONE, count, p[0], p[1], p[2], p[3]));
      due(BAD, x.member(16, 3, PRIVATE, INT, count, p[0], p[1], p[2], p[3]));
      due(BAD, x.member(16, 3, STATIC, OBJECT, count, p[0], p[1], p[2], p[3]));
      due(BAD, x.member(16, 3, ABSTRACT, NONE, count, p[0], p[1], p[2], p[3]));
      if (count == 1 || count == 4) due(BAD, x.member(16, 3, VARIED, NONE, count, p[0], p[1], p[2], p[3]));
      int[] beyond = p.clone();
      for (int k = count; k < 4; k++) beyond[k] = GARBAGE;
      due(BAD, x.member(16, 3, PLAIN, NONE, count, beyond[0], beyond[1], beyond[2], beyond[3]));
      due(1, x.count(1));
      due(1, x.member(17, 3, PLAIN, NONE, count, p[0], p[1], p[2], p[3]));
      due(2, x.member(18, 3, PLAIN, NONE, count, p[0], p[1], p[2], p[3]));
      due(3, x.member(16, 2, PLAIN, NONE, count, p[0], p[1], p[2], p[3]));
      due(4, x.member(16, 4, PLAIN, NONE, count, p[0], p[1], p[2], p[3]));
      due(BAD, x.member(16, 3, PLAIN, NONE, count, p[0], p[1], p[2], p[3]));
    }
  }

  /** Promise 5: one more or less, another at any place, or another order is no "such a one". */
  static void promise05OtherParametersAreOthers() {
    Counted x = start(2);
    for (int count = 0; count <= 4; count++) due(count, x.member(16, 0, PLAIN, NONE, count, INT, INT, INT, INT));
    for (int place = 0; place < 4; place++) {
      int[] p = {INT, INT, INT, INT};
      p[place] = LONG;
      due(5 + place, x.add(16, 0, PLAIN, NONE, p));
    }
    due(9, x.add(16, 0, PLAIN, NONE, INT, LONG));
    due(10, x.add(16, 0, PLAIN, NONE, LONG, INT));
    due(11, x.add(16, 0, VARIED, NONE, INT, INT, INT, ARRAY + INT));
    due(12, x.add(16, 0, PLAIN, NONE, INT, INT, INT, BOXED_INT));
    for (int place = 0; place < 4; place++) {
      int[] p = {INT, INT, INT, INT};
      p[place] = LONG;
      due(BAD, x.add(16, 0, STATIC, INT, p));
    }
  }

  /** Promise 5: "there is such a one" looks at the first and the last of all MEMBERS. */
  static void promise05EachOnceOfMany() {
    Counted x = start(2);
    fill(x, 0, PLAIN, 59);
    for (int k = 0; k < 59; k++) due(BAD, x.add(16, 0, STATIC, INT, k % 10, k / 10));
    due(59, x.add(16, 0, PLAIN, NONE, 9, 5));
  }

  /** Promise 5: "BAD: .. there are 60"; numbers are 0 .. 59. */
  static void promise05FullAt60() {
    Counted x = start(24);
    fill(x, 7, PLAIN, 60);
    for (int t : new int[] {16, 17, 39}) {
      due(BAD, x.add(t, 7, PLAIN, NONE));
      due(BAD, x.add(t, 0, ABSTRACT, NONE, INT));
    }
    due(BAD, x.member(LEAST, LEAST, LEAST, LEAST, LEAST, LEAST, LEAST, LEAST, LEAST));
    due(BAD, x.member(MOST, MOST, MOST, MOST, MOST, MOST, MOST, MOST, MOST));
    due(60, x.count(1));
    due(60, x.seen(16, 7, NONE));
    due(59, x.seenAt(16, 7, NONE, 59));
    due(0, x.seen(39, 0, NONE));
    due(NONE, x.function(17));
  }

  /** Promise 5: refused calls do not use up numbers. */
  static void promise05RefusedOnesTakeNoNumber() {
    Counted x = start(2);
    for (int k = 0; k < 60; k++) {
      due(BAD, x.add(16, 16, PLAIN, NONE, k % 10, k / 10));
      due(BAD, x.add(16, 0, PLAIN, NONE, NULL, k / 10));
      due(k, x.count(1));
      due(k, x.add(16, 0, PLAIN, NONE, k % 10, k / 10));
    }
  }

  /** Promise 5: a refused one neither overrides nor makes or ends a FUNCTION, whatever it has been refused for. */
  static void promise05RefusedOnesAreNotThere() {
    int[][] wrong = {{17, 0, 0, NULL, 1, INT}, {17, 0, 0, -2, 1, INT}, {17, 0, VARIED, NONE, 1, INT}, {17, 0, 16, NONE, 1, INT},
      {19, 0, ABSTRACT, NULL, 1, INT}, {19, 0, ABSTRACT, 20, 1, LONG}, {19, 1, ABSTRACT | VARIED, NONE, 0, INT},
      {18, 0, ABSTRACT | STATIC, NONE, 1, LONG}, {18, 0, ABSTRACT | PRIVATE, NONE, 1, LONG}, {18, 16, ABSTRACT, NONE, 1, LONG},
      {18, 0, ABSTRACT, NONE, 5, LONG}, {18, 0, ABSTRACT, NONE, -1, LONG}, {18, 0, 0, NONE, 1, INT}};
    for (int[] m : wrong) {
      Counted x = withClasses(2);
      int f = x.addFunction(INT, INT), g = x.face();
      x.below(g, f);
      due(1, x.add(16, 0, PLAIN, NONE, INT));
      due(BAD, x.member(m[0], m[1], m[2], m[3], m[4], m[5], INT, INT, INT));
      due(0, x.function(f));
      due(0, x.function(g));
      due(1, x.seen(17, 0, NONE));
      due(1, x.seenAt(17, 0, NONE, 0));
      due(0, x.seen(17, 1, NONE));
      due(1, x.chooseFor(17, 0, INT));
      due(0, x.chooseFor(g, 0, INT));
      due(2, x.count(1));
    }
  }

  /** Promise 5: what a refused call leaves. */
  static void promise05Refused() {
    refused(NOTHING, "member", 16, 0, 0, NONE, 0, 0, 0, 0, 0);
    refused(NOTHING, "member", LEAST, LEAST, LEAST, LEAST, LEAST, LEAST, LEAST, LEAST, LEAST);
    refused(NOTHING, "member", MOST, MOST, MOST, MOST, MOST, MOST, MOST, MOST, MOST);
    for (int t : new int[] {LEAST, -2, 10, 11, 15, 21, 40, 63, 74, 85, MOST}) {
      refused(SOME, "member", t, 2, 0, NONE, 1, 1, 0, 0, 0);
      refused(SOME, "member", 17, 2, 0, t, 1, 1, 0, 0, 0);
      refused(SOME, "member", 17, 2, 0, NONE, 1, t, 0, 0, 0);
      refused(SOME, "member", 17, 2, 0, NONE, 4, 1, 1, 1, t);
    }
    for (int name : new int[] {LEAST, -1, 16, MOST}) refused(SOME, "member", 18, name, 4, NONE, 1, 2, 0, 0, 0);
    for (int marks : new int[] {LEAST, -1, 5, 6, 7, 8, 16, MOST}) refused(SOME, "member", 18, 2, marks, NONE, 1, 2, 0, 0, 0);
    for (int count : new int[] {LEAST, -1, 5, MOST}) refused(SOME, "member", 18, 2, 4, NONE, count, 2, 2, 2, 2);
    refused(SOME, "member", 18, 0, 0, NONE, 1, 1, 0, 0, 0);
    refused(SOME, "member", 16, 2, 0, INT, 1, 3, 0, 0, 0);
    refused(SOME, "member", 17, 2, 0, NULL, 1, 3, 0, 0, 0);
    refused(SOME, "member", 20, 1, 0, INT, 0, 0, 0, 0, 0);
    for (int type = 16; type <= 40; type += 4) refused(FULL, "member", type, 1, 0, NONE, 1, 1, 0, 0, 0);
    refused(FULL, "member", 28, 0, 0, NONE, 1, 1, 0, 0, 0);
    refused(FULL, "member", 39, 1, 4, NONE, 1, 1, 0, 0, 0);
    refused(FULL, "member", LEAST, LEAST, LEAST, LEAST, LEAST, LEAST, LEAST, LEAST, LEAST);
    refused(FULL, "member", MOST, MOST, MOST, MOST, MOST, MOST, MOST, MOST, MOST);
  }

  /** Promise 8: "BAD: no TYPE", and NONE for each that is no INTERFACE, though it has one abstract MEMBER. */
  static void promise08TypesInsideAndOutside() {
    for (int told : new int[] {2, 3, 24}) {
      for (int t : NUMBERS) {
        Counted x = start(told);
        due(0, x.add(17, 0, ABSTRACT, NONE));
        due(1, x.add(16, 0, ABSTRACT, NONE));
        due(!isType(t, told) ? BAD : t == 17 ? 0 : NONE, x.function(t), "function " + t);
      }
    }
  }

  /** Promise 8: the first and the last INTERFACE, made FUNCTIONS by the first and the last MEMBER. */
  static void promise08FirstAndLast() {
    Counted x = withFaces(24);
    due(0, x.add(39, 15, ABSTRACT, NONE, INT, INT, INT, INT));
    for (int k = 1; k < 59; k++) due(k, x.add(20, 0, STATIC, NONE, k % 10, k / 10));
    due(59, x.add(16, 0, ABSTRACT, INT));
    due(0, x.function(39));
    due(59, x.function(16));
    for (int t = 17; t < 39; t++) due(NONE, x.function(t));
    due(BAD, x.function(40));
    due(BAD, x.function(15));
  }

  /** Section 2: "and there is one": none abstract is no FUNCTION, one is, two that differ are not. */
  static void promise08NoneOneAndTwo() {
    Counted x = withFaces(4);
    due(NONE, x.function(16));
    due(0, x.add(16, 0, PLAIN, NONE, INT));
    due(NONE, x.function(16));
    due(1, x.add(16, 0, ABSTRACT, NONE, LONG));
    due(1, x.function(16));
    due(2, x.add(16, 0, ABSTRACT, NONE, DOUBLE));
    due(NONE, x.function(16));
    due(3, x.add(17, 0, ABSTRACT, NONE, INT));
    due(4, x.add(17, 15, ABSTRACT, NONE, INT));
    due(NONE, x.function(17));
    due(5, x.add(18, 4, ABSTRACT, NONE, INT));
    due(6, x.add(18, 4, ABSTRACT, NONE, INT, INT));
    due(NONE, x.function(18));
    due(7, x.add(19, 4, ABSTRACT, NONE));
    due(7, x.function(19));
    due(8, x.add(19, 4, ABSTRACT, NONE, INT));
    due(NONE, x.function(19));
  }

  /** Section 2: "(MEMBERS that are not abstract do not matter.)" */
  static void promise08OthersDoNotMatter() {
    for (int marks : new int[] {PLAIN, STATIC, PRIVATE, STATIC | PRIVATE}) {
      Counted x = withFaces(1);
      due(0, x.add(16, 0, marks, NONE, LONG));
      due(NONE, x.function(16));
      due(1, x.add(16, 0, ABSTRACT, NONE, INT));
      due(1, x.function(16));
      due(2, x.add(16, 9, marks, INT, INT));
      due(1, x.function(16));
    }
  }

  /** Section 2: "of several that with the least number", in whatever order they have been told to be above. */
  static void promise08TheLeastOfFour() {
    for (int first = 0; first < 4; first++) {
      Counted x = withFaces(5);
      for (int k = 0; k < 4; k++) due(k, x.add(20 - k, 3, ABSTRACT, k, INT, LONG));
      int least = 9;
      for (int k = 0; k < 4; k++) {
        int from = (first + k) % 4;
        due(k + 1, x.below(16, 20 - from));
        least = Math.min(least, from);
        due(least, x.function(16));
      }
    }
  }

  /** Section 2: an OVERRIDDEN abstract MEMBER is not SEEN; a deed in between ends the FUNCTION. */
  static void promise08OverriddenOnes() {
    Counted x = withFaces(3);
    due(0, x.add(16, 0, ABSTRACT, NONE, INT));
    due(1, x.below(17, 16));
    due(1, x.below(18, 17));
    due(0, x.function(18));
    due(1, x.add(18, 0, ABSTRACT, INT, INT));
    due(1, x.function(18));
    due(0, x.function(17));
    due(2, x.add(17, 0, PLAIN, INT, INT));
    due(NONE, x.function(17));
    due(1, x.function(18));
    due(0, x.function(16));
    Counted y = withFaces(2);
    due(0, y.add(16, 0, ABSTRACT, NONE, INT));
    due(1, y.below(17, 16));
    due(1, y.add(17, 0, STATIC, NONE, INT));
    due(0, y.function(17));
  }

  /** Promise 8: a TYPE that comes when FUNCTIONS have been asked for is none yet, nor does it end one. */
  static void promise08TypesThatComeLater() {
    Counted x = new Counted();
    int f = x.addFunction(NONE);
    for (int t = f + 1; t < 40; t++) {
      due(0, x.function(f));
      due(t, t % 2 == 0 ? x.face() : x.cls(OBJECT));
      due(NONE, x.function(t));
      due(NONE, x.function(ARRAY + t));
      due(0, x.function(f));
    }
  }

  /** Promise 8: what a refused call leaves. */
  static void promise08Refused() {
    for (int t : new int[] {LEAST, -1, 11, 15, 40, 63, 74, 79, 104, MOST}) {
      for (State state : new State[] {NOTHING, SOME, FULL}) refused(state, "function", t);
    }
  }

  /** Promises 9, 10: "BAD: no told TYPE". */
  static void promise09TypesInsideAndOutside() {
    for (int told : new int[] {0, 1, 5, 24}) {
      for (int t : NUMBERS) {
        Counted x = withClasses(told);
        x.add(16, 0, PLAIN, NONE);
        boolean good = isToldType(t, told);
        due(good ? 1 : BAD, x.seen(t, 0, NONE), "seen " + t);
        due(good ? 0 : BAD, x.seenAt(t, 0, NONE, 0), "seenAt " + t);
        due(good ? NONE : BAD, x.seenAt(t, 0, NONE, 1), "seenAt " + t);
      }
    }
  }

  /** Promises 9, 10: "BAD: no .. NAME". */
  static void promise09NamesInsideAndOutside() {
    for (int name : NUMBERS) {
      Counted x = withClasses(1);
      boolean good = x.add(16, name, PLAIN, NONE) == 0;
      due(name >= 0 && name <= 15 ? 1 : BAD, x.seen(16, name, NONE), "seen " + name);
      due(good ? 0 : BAD, x.seenAt(16, name, NONE, 0), "seenAt " + name);
      due(name >= 0 && name <= 15 ? 0 : BAD, withClasses(1).seen(16, name, NONE), "seen " + name);
    }
  }

  /** Promises 9, 10: "BAD: .. from is no told TYPE nor NONE". */
  static void promise09FromInsideAndOutside() {
    for (int told : new int[] {1, 5, 24}) {
      for (int from : NUMBERS) {
        Counted x = withClasses(told);
        x.add(16, 0, PRIVATE, NONE);
        boolean good = from == NONE || isToldType(from, told);
        int all = from == 16 ? 1 : 0;
        due(good ? all : BAD, x.seen(15 + told, 0, from), "from " + from);
        due(good ? all - 1 : BAD, x.seenAt(15 + told, 0, from, 0), "from " + from);
      }
    }
  }

  /** Promise 9: how many, from none to all 60. */
  static void promise09FromNoneTo60() {
    Counted x = start(2);
    due(0, x.seen(16, 5, NONE));
    for (int k = 0; k < 60; k++) {
      due(k, x.add(16, 5, PLAIN, NONE, k % 10, k / 10));
      due(k + 1, x.seen(16, 5, NONE));
      due(k, x.seenAt(16, 5, NONE, k));
      due(NONE, x.seenAt(16, 5, NONE, k + 1));
    }
    due(0, x.seen(16, 4, NONE));
    due(0, x.seen(16, 6, NONE));
    due(0, x.seen(17, 5, NONE));
  }

  /** Section 2: "of t and all told TYPES that t IS", over all 24, and no more. */
  static void promise09OverAllLevels() {
    Counted x = withClasses(24);
    for (int t = 16; t < 40; t++) x.add(t, 0, PLAIN, NONE, t);
    for (int t = 16; t < 40; t++) due(t - 15, x.seen(t, 0, NONE));
    Counted y = withFaces(24);
    for (int t = 17; t < 40; t++) y.below(t, t - 1);
    for (int t = 16; t < 40; t++) y.add(t, 0, ABSTRACT, NONE, t);
    for (int t = 16; t < 40; t++) due(t - 15, y.seen(t, 0, NONE));
  }

  /** Section 2: "private ones just if their TYPE is f", be it above or below the TYPE that is asked. */
  static void promise09PrivateOnes() {
    for (int marks : new int[] {PRIVATE, PRIVATE | STATIC, PRIVATE | ABSTRACT}) {
      Counted x = withClasses(3);
      for (int t = 16; t < 19; t++) due(t - 16, x.add(t, 0, marks, NONE, INT));
      for (int type = 16; type < 19; type++) {
        due(0, x.seen(type, 0, NONE));
        for (int from = 16; from < 19; from++) {
          due(from <= type ? 1 : 0, x.seen(type, 0, from), type + " from " + from);
          due(from <= type ? from - 16 : NONE, x.seenAt(type, 0, from, 0));
        }
      }
    }
  }

  /** Section 2: OVERRIDDEN at the smallest and at the greatest distance. */
  static void promise09OverriddenAtAnyDistance() {
    for (int over = 17; over < 40; over++) {
      Counted x = withClasses(24);
      due(0, x.add(16, 0, PLAIN, NONE, INT, LONG));
      due(1, x.add(over, 0, ABSTRACT, INT, INT, LONG));
      for (int type = 16; type < 40; type++) {
        due(1, x.seen(type, 0, NONE), type + " over " + over);
        due(type < over ? 0 : 1, x.seenAt(type, 0, NONE, 0), type + " over " + over);
      }
    }
  }

  /** Section 2: OVERRIDDEN whichever has been told first, the first MEMBER (0) and the last (59). */
  static void promise09OverriddenInAnyOrder() {
    for (int first = 0; first < 2; first++) {
      Counted x = withClasses(2);
      due(0, x.add(16 + first, 0, PLAIN, NONE, INT));
      for (int k = 1; k < 59; k++) due(k, x.add(17, 1, PLAIN, NONE, k % 10, k / 10));
      due(59, x.add(17 - first, 0, PLAIN, NONE, INT));
      due(1, x.seen(17, 0, NONE));
      due(first == 1 ? 0 : 59, x.seenAt(17, 0, NONE, 0));
      due(first == 1 ? 59 : 0, x.seenAt(16, 0, NONE, 0));
    }
  }

  /** Section 2: "neither static nor private", neither the one nor the other. */
  static void promise09StaticAndPrivateOnesDoNotOverride() {
    for (int upper = 0; upper < 4; upper++) {
      for (int lower = 0; lower < 4; lower++) {
        Counted x = withClasses(2);
        due(0, x.add(16, 0, upper, NONE, INT));
        due(1, x.add(17, 0, lower, NONE, INT));
        int all = ((upper & PRIVATE) == 0 ? 1 : 0) + ((lower & PRIVATE) == 0 ? 1 : 0);
        boolean overridden = upper == 0 && lower == 0;
        due(overridden ? 1 : all, x.seen(17, 0, NONE), upper + " " + lower);
        due(overridden ? 1 : (lower & PRIVATE) == 0 ? all : all + 1, x.seen(17, 0, 17), upper + " " + lower);
      }
    }
  }

  /** Section 2: "with the same parameters": one more, one less or one other at any place does not override. */
  static void promise09OtherParametersDoNotOverride() {
    for (int place = 0; place < 4; place++) {
      Counted x = withClasses(2);
      int[] p = {INT, INT, INT, INT};
      x.add(16, 0, PLAIN, NONE, p);
      p[place] = LONG;
      x.add(17, 0, PLAIN, NONE, p);
      due(2, x.seen(17, 0, NONE));
    }
    for (int upper = 0; upper <= 4; upper++) {
      for (int lower = 0; lower <= 4; lower++) {
        Counted x = withClasses(2);
        x.member(16, 0, PLAIN, NONE, upper, INT, INT, INT, INT);
        x.member(17, 0, PLAIN, NONE, lower, INT, INT, INT, INT);
        due(upper == lower ? 1 : 2, x.seen(17, 0, NONE));
      }
    }
  }

  /** Section 2: the overriding one is "of a TYPE that t IS, and that IS the TYPE of the one", and of the same NAME. */
  static void promise09OthersDoNotOverride() {
    Counted x = new Counted();
    int f = x.face(), g = x.face(), c = x.cls(OBJECT), d = x.cls(c), e = x.cls(d), other = x.cls(c);
    x.below(e, f);
    x.below(e, g);
    due(0, x.add(f, 0, ABSTRACT, NONE, INT));
    due(1, x.add(g, 0, PLAIN, NONE, INT));
    due(2, x.add(c, 0, PLAIN, NONE, INT));
    due(3, x.add(other, 0, PLAIN, NONE, INT));
    due(4, x.add(e, 1, PLAIN, NONE, INT));
    due(1, x.seen(d, 0, NONE));
    due(3, x.seen(e, 0, NONE));
    due(1, x.seen(other, 0, NONE));
    due(3, x.seenAt(other, 0, NONE, 0));
    due(5, x.add(e, 0, PLAIN, NONE, INT));
    due(1, x.seen(e, 0, NONE));
    due(1, x.seen(d, 0, NONE));
  }

  /** Promise 9: what a refused call leaves. */
  static void promise09Refused() {
    for (int t : new int[] {LEAST, -2, 0, 8, 15, 40, 80, MOST}) {
      for (State state : new State[] {NOTHING, SOME, FULL}) {
        refused(state, "seen", t, 0, NONE);
        refused(state, "seen", 16, 0, t);
        refused(state, "seen", 16, t == 0 || t == 8 || t == 15 ? 16 : t, NONE);
      }
    }
  }

  /** Promise 10: "NONE: there is none such", when there are none, some and 60. */
  static void promise10PlacesInsideAndOutside() {
    for (int many : new int[] {0, 1, 2, 59, 60}) {
      for (int i : NUMBERS) {
        Counted x = start(2);
        for (int k = 0; k < many; k++) x.add(16, 0, STATIC, NONE, k % 10, k / 10);
        due(i >= 0 && i < many ? i : NONE, x.seenAt(16, 0, NONE, i), "of " + many + " the " + i);
      }
    }
  }

  /** Promise 10: "The i-th of them, by numbers (from 0)", not by TYPES. */
  static void promise10ByNumbers() {
    Counted x = withClasses(3);
    int[] owners = {18, 16, 17, 16, 18, 17};
    for (int k = 0; k < 6; k++) {
      due(2 * k, x.add(owners[k], 0, PLAIN, NONE, k));
      due(2 * k + 1, x.add(owners[k], 1, PLAIN, NONE, k));
    }
    for (int i = 0; i < 6; i++) due(2 * i, x.seenAt(18, 0, NONE, i));
    int[] middle = {2, 4, 6, 10, NONE};
    for (int i = 0; i < 5; i++) due(middle[i], x.seenAt(17, 0, NONE, i));
    int[] top = {2, 6, NONE, NONE};
    for (int i = 0; i < 4; i++) due(top[i], x.seenAt(16, 0, NONE, i));
  }

  /** Promise 10: "BAD" comes before NONE. */
  static void promise10BadComesFirst() {
    Counted x = withClasses(1);
    for (int i : new int[] {LEAST, -1, 0, 60, MOST}) {
      due(BAD, x.seenAt(17, 0, NONE, i));
      due(BAD, x.seenAt(16, 16, NONE, i));
      due(BAD, x.seenAt(16, -1, NONE, i));
      due(BAD, x.seenAt(16, 0, 17, i));
      due(BAD, x.seenAt(16, 0, -2, i));
      due(NONE, x.seenAt(16, 0, NONE, i));
    }
  }

  /** Promise 10: what a refused call leaves. */
  static void promise10Refused() {
    for (int t : new int[] {LEAST, -2, 0, 8, 15, 40, 80, MOST}) {
      for (State state : new State[] {NOTHING, SOME, FULL}) {
        refused(state, "seenAt", t, 0, NONE, 0);
        refused(state, "seenAt", 16, 0, t, 0);
        refused(state, "seenAt", 16, t == 0 || t == 8 || t == 15 ? 16 : t, NONE, 0);
      }
    }
  }
}
