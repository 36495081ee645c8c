/** The limits that the document tells of choices: section 3, promises 14 to 17, and how many calls an object is used for. */
public final class EdgesOfChoices extends DocumentTest {
  public static void main(String[] args) throws Exception { runAll(EdgesOfChoices.class); }

  /** 24 CLASSES, each below the one before, and 60 MEMBERS of the last, with the parameters 16 + k % 24, 16 + k / 24. */
  private static Counted withSixty() {
    Counted x = withClasses(24);
    for (int k = 0; k < 60; k++) x.add(39, 0, PLAIN, NONE, 16 + k % 24, 16 + k / 24);
    return x;
  }

  private static int[] ints(int many) {
    int[] all = new int[many];
    java.util.Arrays.fill(all, INT);
    return all;
  }

  /** Promise 14: "BAD": type is no told TYPE. */
  static void promise14TypesInsideAndOutside() {
    for (int told : new int[] {0, 1, 5, 24}) {
      for (int t : NUMBERS) {
        Counted x = withClasses(told);
        x.add(16, 0, PLAIN, NONE);
        due(isToldType(t, told) ? 0 : BAD, x.choose(t, 0, NONE, 0), "type " + t);
      }
    }
  }

  /** Promise 14: "BAD": no NAME. */
  static void promise14NamesInsideAndOutside() {
    for (int name : NUMBERS) {
      boolean good = name >= 0 && name <= 15;
      Counted x = withClasses(1);
      due(good ? UNSEEN : BAD, x.choose(16, name, NONE, 0), "name " + name);
      x.add(16, name, PLAIN, NONE);
      due(good ? 0 : BAD, x.choose(16, name, NONE, 0), "name " + name);
    }
  }

  /** Promises 9, 14: "from is no told TYPE nor NONE (so in .. choose())". */
  static void promise14FromInsideAndOutside() {
    for (int told : new int[] {1, 5, 24}) {
      for (int from : NUMBERS) {
        Counted x = withClasses(told);
        x.add(16, 0, PRIVATE, NONE);
        boolean good = from == NONE || isToldType(from, told);
        due(!good ? BAD : from == 16 ? 0 : UNSEEN, x.choose(15 + told, 0, from, 0), "from " + from);
      }
    }
  }

  /** Promise 14: "BAD: also another fixed". */
  static void promise14FixedInsideAndOutside() {
    for (int fixed : NUMBERS) {
      Counted x = withClasses(1);
      boolean good = fixed == 0 || fixed == 1;
      due(good ? UNSEEN : BAD, x.choose(16, 0, NONE, fixed), "fixed " + fixed);
      due(0, x.add(16, 0, PLAIN, NONE));
      due(1, x.add(16, 1, STATIC, NONE));
      due(fixed == 0 ? 0 : fixed == 1 ? INSTANCE : BAD, x.choose(16, 0, NONE, fixed), "fixed " + fixed);
      due(good ? 1 : BAD, x.choose(16, 1, NONE, fixed), "fixed " + fixed);
    }
  }

  /** Promise 14: what a refused call leaves: the latest choice, too. */
  static void promise14Refused() {
    for (State state : new State[] {NOTHING, SOME, FULL}) {
      for (int t : new int[] {LEAST, -2, -1, 0, 8, 15, 40, 80, MOST}) {
        refused(state, "choose", t, 0, NONE, 0);
        if (t != NONE) refused(state, "choose", 16, 0, t, 0);
      }
      for (int name : new int[] {LEAST, -1, 16, MOST}) refused(state, "choose", 16, name, NONE, 0);
      for (int fixed : new int[] {LEAST, -1, 2, MOST}) refused(state, "choose", 16, 0, NONE, fixed);
    }
    refused(SOME, "choose", 21, 2, NONE, 0);
    refused(SOME, "choose", 17, 2, 21, 1);
  }

  /** Promise 14: a choice leaves TYPES, MEMBERS and ARGUMENTS as they were. */
  static void promise14TheRestStays() {
    for (State state : new State[] {SOME, FULL}) {
      Counted x = state.fresh(), y = state.fresh();
      for (int name = 0; name < 16; name++) x.choose(17, name, 16, 1);
      for (int what = 0; what < 3; what++) due(y.count(what), x.count(what));
      for (int t = 16; t < 21; t++) {
        due(y.function(t), x.function(t));
        due(y.seen(t, 2, t), x.seen(t, 2, t));
        due(y.choose(t, 2, t, 0), x.choose(t, 2, t, 0));
      }
      due(y.wipe(), x.wipe());
    }
  }

  /** Promise 14: UNSEEN: "No MEMBER of that NAME is SEEN", be there others, or one that is private. */
  static void promise14Unseen() {
    Counted x = withClasses(3);
    due(UNSEEN, x.choose(17, 0, NONE, 0));
    due(0, x.add(18, 0, PLAIN, NONE));
    due(1, x.add(17, 1, PLAIN, NONE));
    due(2, x.add(16, 0, PRIVATE, NONE));
    for (int fixed = 0; fixed < 2; fixed++) {
      due(UNSEEN, x.choose(17, 0, NONE, fixed));
      due(UNSEEN, x.choose(17, 0, 17, fixed));
      due(UNSEEN, x.choose(17, 15, 16, fixed));
    }
    due(2, x.choose(17, 0, 16, 0));
    due(0, x.choose(18, 0, NONE, 0));
    due(3, x.add(17, 0, PLAIN, NONE));
    due(3, x.choose(17, 0, NONE, 0));
  }

  /** Section 3: "it has as many parameters as there are ARGUMENTS": one less, one more is UNMEANT, from 0 to 5. */
  static void promise14CountsThatAreMeant() {
    for (int width = 0; width <= 4; width++) {
      Counted x = withClasses(1);
      due(0, x.member(16, 0, PLAIN, NONE, width, INT, INT, INT, INT));
      for (int many = 0; many <= 5; many++) due(many == width ? 0 : UNMEANT, x.chooseFor(16, 0, ints(many)), width + " " + many);
    }
  }

  /** Section 3: "or is varied, with one more than them at most": two more is UNMEANT; less is never too few. */
  static void promise14VariedCountsThatAreMeant() {
    for (int width = 1; width <= 4; width++) {
      Counted x = withClasses(1);
      int[] p = ints(width);
      p[width - 1] = ARRAY + INT;
      due(0, x.add(16, 0, VARIED, NONE, p));
      due(1, x.add(16, 1, PLAIN, NONE, p));
      for (int many = 0; many <= 5; many++) {
        due(width <= many + 1 ? 0 : UNMEANT, x.chooseFor(16, 0, ints(many)), width + " " + many);
        due(width <= many + 1 ? 3 : 0, x.phase(), width + " " + many);
        due(width == many ? UNFIT : UNMEANT, x.chooseFor(16, 1, ints(many)), width + " " + many);
      }
    }
  }

  /** Section 3: "each LAMBDA has a FUNCTION there .. of n parameters, which has a result if the LAMBDA has, else none". */
  static void promise14ShapesThatAreMeant() {
    for (int width = 0; width <= 4; width++) {
      for (int result : new int[] {NONE, BOOL, INT, ARRAY + INT}) {
        Counted x = new Counted();
        int f = x.face(), c = x.cls(OBJECT);
        due(0, x.member(f, 0, ABSTRACT, result, width, INT, INT, INT, INT));
        due(1, x.add(c, 0, PLAIN, NONE, f));
        due(2, x.add(c, 1, VARIED, NONE, ARRAY + f));
        for (int n = 0; n <= 2; n++) {
          for (int told = 0; told < 2; told++) {
            due(n == width && result == NONE ? 1 : UNMEANT, x.chooseForLambda(c, 0, n, told, NONE), n + " of " + width);
            due(n == width && result == NONE ? 2 : UNMEANT, x.chooseForLambda(c, 1, n, told, NONE), n + " of " + width);
            due(n == width && result == NONE ? 3 : 0, x.phase(), n + " of " + width);
            int given = result == NONE ? BOOL : result;
            due(n == width && result != NONE ? 1 : UNMEANT, x.chooseForLambda(c, 0, n, told, given), n + " of " + width);
            due(n == width && result != NONE ? 2 : UNMEANT, x.chooseForLambda(c, 1, n, told, given), n + " of " + width);
          }
        }
      }
    }
  }

  /** Section 3: a LAMBDA wants a FUNCTION: no other TYPE, and an ARRAY of one just where the MEMBER is varied and ends. */
  static void promise14LambdasWantFunctions() {
    for (int t : allTypes(4)) {
      if (t == NULL) continue;
      Counted x = new Counted();
      int f = x.addFunction(NONE), empty = x.face(), c = x.cls(OBJECT), user = x.cls(OBJECT);
      due(1, x.add(c, 0, ABSTRACT, NONE));
      due(2, x.add(user, 0, PLAIN, NONE, t));
      due(t == f ? 2 : UNMEANT, x.chooseForLambda(user, 0, 0, 0, NONE), "a lambda for " + t);
      due(t == f ? 2 : UNMEANT, x.chooseForLambda(user, 0, 0, 1, NONE), "a lambda for " + t);
      if (t >= ARRAY) {
        due(3, x.add(user, 1, VARIED, NONE, t));
        due(t == ARRAY + f ? 3 : UNMEANT, x.chooseForLambda(user, 1, 0, 0, NONE), "a lambda for ... " + t);
        due(4, x.add(user, 2, VARIED, NONE, t, ARRAY + OBJECT));
        due(UNMEANT, x.chooseForLambda(user, 2, 0, 0, NONE), "a lambda for an array first " + t);
      }
      due(NONE, x.function(empty));
    }
  }

  /** Section 3: "from the last parameter on its ARRAY's TYPE": before it the parameters themselves, at each place. */
  static void promise14LambdasAtEachPlace() {
    for (int place = 0; place < 5; place++) {
      Counted x = new Counted();
      int f = x.addFunction(NONE), c = x.cls(OBJECT);
      due(1, x.add(c, 0, VARIED, NONE, f, OBJECT, ARRAY + f));
      x.wipe();
      for (int k = 0; k < 5; k++) {
        if (k == place) x.lambda(0, 1, 0, 0, NONE);
        else x.argument(NULL);
      }
      due(place == 1 ? UNMEANT : 1, x.choose(c, 0, NONE, 0), "a lambda at " + place);
    }
  }

  /** Section 3: "a TYPE: IS it (PHASE 2: FITS it)"; beyond both it is UNFIT, for each pair of TYPES. */
  static void promise14PhasesOfOneArgument() {
    for (int t : allTypes(3)) {
      if (t == NULL) continue;
      for (int s : allTypes(3)) {
        Counted x = threeTypes();
        due(0, x.add(16, 0, PLAIN, NONE, t));
        int phase = x.is(s, t) == 1 ? 1 : x.fits(s, t) == 1 ? 2 : 0;
        due(phase == 0 ? UNFIT : 0, x.chooseFor(16, 0, s), s + " for " + t);
        due(phase, x.phase(), s + " for " + t);
        due(phase == 0 ? NONE : 0, x.applied(0), s + " for " + t);
      }
    }
  }

  /** A CLASS (16), an INTERFACE (17), and a CLASS (18) below both. */
  private static Counted threeTypes() {
    Counted x = withClasses(1);
    x.face();
    x.cls(16);
    x.below(18, 17);
    return x;
  }

  /** Section 3: "In PHASE 3: varied ones, .. against its ARRAY's TYPE, as in PHASE 2", for each pair of TYPES. */
  static void promise14PhasesOfVariedOnes() {
    for (int t : allTypes(3)) {
      if (t < ARRAY) continue;
      for (int s : allTypes(3)) {
        Counted x = threeTypes();
        due(0, x.add(16, 0, VARIED, NONE, t));
        int phase = x.is(s, t) == 1 ? 1 : x.fits(s, t - ARRAY) == 1 ? 3 : 0;
        due(phase == 0 ? UNFIT : 0, x.chooseFor(16, 0, s), s + " for ... " + t);
        due(phase, x.phase(), s + " for ... " + t);
        boolean spread = x.fits(s, t - ARRAY) == 1;
        due(spread ? 0 : UNFIT, x.chooseFor(16, 0, s, s), s + " twice for ... " + t);
        due(spread ? 3 : 0, x.phase(), s + " twice for ... " + t);
      }
    }
  }

  /** Section 3: "The first PHASE in which one .. APPLIES counts, with all that do in it", and none of a later one. */
  static void promise14TheFirstPhaseCounts() {
    Counted x = withClasses(1);
    due(0, x.add(16, 0, VARIED, NONE, ARRAY + INT));
    due(0, x.chooseFor(16, 0, INT));
    appliedAre(x, 3, 0);
    due(1, x.add(16, 0, PLAIN, NONE, OBJECT));
    due(1, x.chooseFor(16, 0, INT));
    appliedAre(x, 2, 1);
    due(2, x.add(16, 0, PLAIN, NONE, BOXED_INT));
    due(2, x.chooseFor(16, 0, INT));
    appliedAre(x, 2, 1, 2);
    due(3, x.add(16, 0, PLAIN, NONE, DOUBLE));
    due(3, x.chooseFor(16, 0, INT));
    appliedAre(x, 1, 3);
    due(4, x.add(16, 0, PLAIN, NONE, INT));
    due(4, x.chooseFor(16, 0, INT));
    appliedAre(x, 1, 3, 4);
    due(1, x.chooseFor(16, 0, BOOL));
    appliedAre(x, 2, 1);
    due(0, x.chooseFor(16, 0, INT, INT));
    appliedAre(x, 3, 0);
    due(UNFIT, x.chooseFor(16, 0, INT, BOOL));
    appliedAre(x, 0);
  }

  private static void appliedAre(Counted x, int phase, int... all) {
    due(phase, x.phase());
    due(NONE, x.applied(-1));
    for (int i = 0; i < all.length; i++) due(all[i], x.applied(i));
    due(NONE, x.applied(all.length));
  }

  /** Section 3: one that COULD not BE MEANT does not matter, though its TYPES fit. */
  static void promise14UnmeantAndUnfitOnes() {
    Counted x = withClasses(1);
    due(0, x.add(16, 0, PLAIN, NONE, INT, INT));
    due(UNMEANT, x.chooseFor(16, 0, INT));
    due(1, x.add(16, 0, PLAIN, NONE, BOOL));
    due(UNFIT, x.chooseFor(16, 0, INT));
    due(UNMEANT, x.chooseFor(16, 0));
    due(UNFIT, x.chooseFor(16, 0, INT, BOOL));
    due(2, x.add(16, 0, PLAIN, NONE, LONG));
    due(2, x.chooseFor(16, 0, INT));
    appliedAre(x, 1, 2);
  }

  /** Section 3: a TOLD LAMBDA's parameters are "just its", at each place; one that is not TOLD does not look at them. */
  static void promise14ToldParameters() {
    for (int t : allTypes(2)) {
      if (t == NULL) continue;
      Counted x = new Counted();
      int f = x.face(), c = x.cls(OBJECT);
      due(0, x.add(f, 0, ABSTRACT, INT, LONG, BOXED_INT));
      due(1, x.add(c, 0, PLAIN, NONE, f));
      x.lambda(2, 1, t, BOXED_INT, INT);
      due(t == LONG ? 1 : UNFIT, x.choose(c, 0, NONE, 0), "first " + t);
      x.wipe();
      x.lambda(2, 1, LONG, t, INT);
      due(t == BOXED_INT ? 1 : UNFIT, x.choose(c, 0, NONE, 0), "second " + t);
      x.wipe();
      x.lambda(2, 0, t, t, BOOL);
      due(1, x.choose(c, 0, NONE, 0), "not told " + t);
    }
  }

  /** Section 3: a TOLD LAMBDA's result IS the FUNCTION's (PHASE 2: FITS it), for each pair of TYPES. */
  static void promise14ToldResults() {
    for (int want : allTypes(3)) {
      if (want == NULL) continue;
      for (int given : allTypes(3)) {
        if (given == NULL) continue;
        Counted x = threeTypes();
        due(0, x.add(17, 0, ABSTRACT, want));
        due(1, x.add(16, 0, PLAIN, NONE, 17));
        int phase = x.is(given, want) == 1 ? 1 : x.fits(given, want) == 1 ? 2 : 0;
        due(phase == 0 ? UNFIT : 1, x.chooseForLambda(16, 0, 0, 1, given), given + " for " + want);
        due(phase, x.phase(), given + " for " + want);
        due(1, x.chooseForLambda(16, 0, 0, 0, given), given + " for " + want);
        due(1, x.phase(), given + " for " + want);
      }
    }
  }

  /** Promise 14: "fixed = 1: .. one that is not static is INSTANCE", whatever its other MARKS; else fixed is nothing. */
  static void promise14StaticPlaces() {
    for (int marks = 0; marks <= 15; marks++) {
      if ((marks & 5) == 5) continue;
      Counted x = withClasses(1);
      due(0, x.add(16, 0, marks, NONE, ARRAY + INT));
      x.argument(ARRAY + INT);
      due(0, x.choose(16, 0, 16, 0), "marks " + marks);
      due((marks & STATIC) != 0 ? 0 : INSTANCE, x.choose(16, 0, 16, 1), "marks " + marks);
      due(1, x.phase());
      due(0, x.applied(0));
    }
  }

  /** Promise 14: in a static place UNSEEN, UNMEANT, UNFIT and AMBIGUOUS stay what they are. */
  static void promise14StaticPlacesWithoutAChoice() {
    Counted x = withClasses(1);
    due(0, x.add(16, 0, PLAIN, NONE, INT, LONG));
    due(1, x.add(16, 0, STATIC, NONE, LONG, INT));
    for (int fixed = 0; fixed < 2; fixed++) {
      x.wipe();
      due(UNSEEN, x.choose(16, 1, NONE, fixed));
      due(UNMEANT, x.choose(16, 0, NONE, fixed));
      x.argument(INT);
      due(UNMEANT, x.choose(16, 0, NONE, fixed));
      x.argument(BOOL);
      due(UNFIT, x.choose(16, 0, NONE, fixed));
      x.wipe();
      x.argument(INT);
      x.argument(INT);
      due(AMBIGUOUS, x.choose(16, 0, NONE, fixed));
    }
  }

  /** Section 3: "if just one is not abstract that, if all are abstract that with the least number. Else .. AMBIGUOUS". */
  static void promise14PairsThatCannotBeToldApart() {
    for (int bits = 0; bits < 16; bits++) {
      Counted x = withFaces(4);
      int c = x.cls(OBJECT);
      for (int k = 0; k < 4; k++) {
        x.below(c, 19 - k);
        due(k, x.add(16 + k, 0, (bits >> k & 1) != 0 ? PLAIN : ABSTRACT, NONE, INT));
      }
      int concrete = Integer.bitCount(bits);
      int want = concrete == 0 ? 0 : concrete == 1 ? Integer.numberOfTrailingZeros(bits) : AMBIGUOUS;
      due(want, x.chooseFor(c, 0, INT), "not abstract: " + bits);
      appliedAre(x, 1, 0, 1, 2, 3);
      due(want < 0 ? want : INSTANCE, x.choose(c, 0, NONE, 1), "not abstract: " + bits);
    }
  }

  /** Section 3: "of several such ones that have the same parameters": if they have others, they are AMBIGUOUS. */
  static void promise14TwinsWithOtherParameters() {
    for (int marks : new int[] {PLAIN, ABSTRACT}) {
      Counted x = withClasses(1);
      int f = x.addFunction(INT, INT), g = x.addFunction(INT, INT);
      due(2, x.add(16, 0, ABSTRACT, NONE, f));
      due(3, x.add(16, 0, marks, NONE, g));
      due(AMBIGUOUS, x.chooseForLambda(16, 0, 1, 1, INT));
      appliedAre(x, 1, 2, 3);
      due(1, x.special(2, 3));
      due(1, x.special(3, 2));
    }
  }

  /** Section 3: of "several such ones that have the same parameters" those that are less special do not count. */
  static void promise14LessSpecialOnesDoNotCount() {
    Counted x = withFaces(2);
    int c = x.cls(OBJECT);
    x.below(c, 16);
    x.below(c, 17);
    due(0, x.add(c, 0, PLAIN, NONE, LONG));
    due(1, x.add(17, 0, ABSTRACT, NONE, INT));
    due(2, x.add(16, 0, ABSTRACT, NONE, INT));
    due(1, x.chooseFor(c, 0, INT));
    appliedAre(x, 1, 0, 1, 2);
    due(0, x.chooseFor(c, 0, LONG));
    appliedAre(x, 1, 0);
  }

  /** Promise 14: one MEMBER without parameters for no ARGUMENTS, and a varied one beside it. */
  static void promise14NoArguments() {
    Counted x = withClasses(1);
    due(UNSEEN, x.choose(16, 0, NONE, 0));
    due(0, x.add(16, 0, VARIED, NONE, ARRAY + INT));
    due(0, x.choose(16, 0, NONE, 0));
    appliedAre(x, 3, 0);
    due(1, x.add(16, 0, PLAIN, NONE));
    due(1, x.choose(16, 0, NONE, 0));
    appliedAre(x, 1, 1);
    due(2, x.add(16, 1, VARIED, NONE, INT, ARRAY + INT));
    due(UNMEANT, x.choose(16, 1, NONE, 0));
  }

  /** Promise 14: 60 MEMBERS that all APPLY, and the last of them CHOSEN. */
  static void promise14OfSixty() {
    Counted x = withSixty();
    due(AMBIGUOUS, x.chooseFor(39, 0, NULL, NULL));
    due(59, x.applied(59));
    due(59, x.chooseFor(39, 0, 27, 39));
    due(59, x.applied(35));
    due(NONE, x.applied(36));
    due(0, x.chooseFor(39, 0, 16, 16));
    appliedAre(x, 1, 0);
    due(UNFIT, x.chooseFor(39, 0, INT, 16));
    due(UNMEANT, x.chooseFor(39, 0, 16));
    due(UNSEEN, x.chooseFor(38, 0, 39, 39));
  }

  /** Promise 15: "0: .. before any"; BAD ones do not count as one. */
  static void promise15BeforeAny() {
    Counted x = withClasses(1);
    due(0, x.phase());
    x.add(16, 0, PLAIN, NONE);
    due(0, x.phase());
    due(BAD, x.choose(16, 0, NONE, 2));
    due(BAD, x.choose(17, 0, NONE, 0));
    due(0, x.phase());
    due(NONE, x.applied(0));
    due(NONE, x.special(0, 0));
    due(0, x.choose(16, 0, NONE, 0));
    due(1, x.phase());
  }

  /** Promise 15: "the PHASE in which some APPLIED; 0: none", behind each answer, AMBIGUOUS and INSTANCE too. */
  static void promise15BehindEachAnswer() {
    Counted x = withClasses(1);
    due(0, x.add(16, 0, PLAIN, NONE, INT, LONG));
    due(1, x.add(16, 0, PLAIN, NONE, LONG, INT));
    due(2, x.add(16, 0, VARIED, NONE, ARRAY + INT));
    for (int before = 0; before < 4; before++) {
      reach(x, before);
      due(AMBIGUOUS, x.chooseFor(16, 0, INT, INT));
      appliedAre(x, 1, 0, 1);
      reach(x, before);
      due(AMBIGUOUS, x.chooseFor(16, 0, BOXED_INT, INT));
      appliedAre(x, 2, 0, 1);
      reach(x, before);
      x.wipe();
      due(INSTANCE, x.choose(16, 0, NONE, 1));
      appliedAre(x, 3, 2);
      reach(x, before);
      due(UNFIT, x.chooseFor(16, 0, BOOL, INT));
      appliedAre(x, 0);
      reach(x, before);
      due(UNSEEN, x.chooseFor(16, 1));
      appliedAre(x, 0);
    }
  }

  /** Brings x to a latest choice of that PHASE. */
  private static void reach(Counted x, int phase) {
    int[][] given = {{BOOL}, {INT, LONG}, {INT, BOXED_LONG}, {INT, INT, INT}};
    x.chooseFor(16, 0, given[phase]);
    due(phase, x.phase());
  }

  /** Promise 15: "Of the latest choose() that was not BAD": UNMEANT is not BAD, and leaves 0. */
  static void promise15BehindUnmeant() {
    Counted x = withClasses(1);
    due(0, x.add(16, 0, PLAIN, NONE, INT));
    due(0, x.chooseFor(16, 0, INT));
    appliedAre(x, 1, 0);
    due(BAD, x.choose(16, 0, NONE, 2));
    appliedAre(x, 1, 0);
    due(UNMEANT, x.chooseFor(16, 0));
    appliedAre(x, 0);
    due(BAD, x.choose(16, 0, NONE, -1));
    appliedAre(x, 0);
    due(NONE, x.special(0, 0));
  }

  /** Promise 16: "NONE: none such", when none, one and 60 APPLIED. */
  static void promise16PlacesInsideAndOutside() {
    for (int i : NUMBERS) {
      due(NONE, new Counted().applied(i), "of a new object " + i);
      Counted x = withSixty();
      due(NONE, x.applied(i), "before any " + i);
      x.chooseFor(39, 0, NULL, NULL);
      due(i >= 0 && i < 60 ? i : NONE, x.applied(i), "of sixty " + i);
      x.chooseFor(39, 0, 16, 16);
      due(i == 0 ? 0 : NONE, x.applied(i), "of one " + i);
      x.chooseFor(39, 0, 16, 18);
      due(i == 0 ? 0 : i == 1 ? 24 : i == 2 ? 48 : NONE, x.applied(i), "of three " + i);
      x.chooseFor(39, 0, INT, INT);
      due(NONE, x.applied(i), "of none " + i);
    }
  }

  /** Promise 16: "by numbers", not by TYPES, and just those that APPLIED then. */
  static void promise16ByNumbers() {
    Counted x = withClasses(3);
    due(0, x.add(18, 0, PLAIN, NONE, OBJECT));
    due(1, x.add(16, 0, PLAIN, NONE, 16));
    due(2, x.add(17, 1, PLAIN, NONE, 16));
    due(3, x.add(17, 0, PLAIN, NONE, INT));
    due(4, x.add(18, 0, PLAIN, NONE, 17));
    due(5, x.add(16, 0, PLAIN, NONE, 18));
    due(4, x.chooseFor(18, 0, 17));
    appliedAre(x, 1, 0, 1, 4);
    due(1, x.chooseFor(17, 0, 17));
    appliedAre(x, 1, 1);
    due(5, x.chooseFor(18, 0, NULL));
    appliedAre(x, 1, 0, 1, 4, 5);
  }

  /** Promise 17: "NONE: one did not APPLY then", the one, the other or both, for every number. */
  static void promise17MembersInsideAndOutside() {
    for (int m : NUMBERS) {
      due(NONE, new Counted().special(m, m), "of a new object " + m);
      Counted x = withSixty();
      due(NONE, x.special(m, 0), "before any " + m);
      x.chooseFor(39, 0, 16, 18);
      boolean good = m == 0 || m == 24 || m == 48;
      due(good ? 1 : NONE, x.special(48, m), "48 and " + m);
      due(good ? 1 : NONE, x.special(m, 0), m + " and 0");
      due(good ? 1 : NONE, x.special(m, m), "twice " + m);
      due(NONE, x.special(m, 1), m + " and 1");
      due(NONE, x.special(47, m), "47 and " + m);
      x.chooseFor(39, 0, INT, INT);
      due(NONE, x.special(m, m), "of none " + m);
    }
  }

  /** Promise 17: all pairs of 60 that APPLIED: the first and the last are compared as the others. */
  static void promise17AllPairsOfSixty() {
    for (int m = 0; m < 60; m++) {
      Counted x = withSixty();
      x.chooseFor(39, 0, NULL, NULL);
      for (int o = 0; o < 60; o++) {
        boolean is = m % 24 >= o % 24 && m / 24 >= o / 24;
        due(is ? 1 : 0, x.special(m, o), m + " and " + o);
      }
    }
  }

  /** Promise 17: "(m may be o: 1)", in each PHASE, with TYPES, LAMBDAS or nothing given. */
  static void promise17EachAsSpecialAsItself() {
    Counted x = new Counted();
    int f = x.addFunction(INT, INT), c = x.cls(OBJECT);
    due(1, x.add(c, 0, VARIED, NONE, ARRAY + f));
    due(1, x.chooseFor(c, 0));
    due(1, x.special(1, 1));
    due(1, x.chooseFor(c, 0, ARRAY + f));
    due(1, x.special(1, 1));
    for (int told = 0; told < 2; told++) {
      due(1, x.chooseForLambda(c, 0, 1, told, INT));
      due(1, x.special(1, 1));
    }
    due(NONE, x.special(1, 0));
    due(NONE, x.special(0, 0));
  }

  /** Promise 17: "all being as it was then": what is told, wiped or refused later does not matter. */
  static void promise17AsItWasThen() {
    Counted x = withFaces(2);
    int c = x.cls(OBJECT);
    due(0, x.add(c, 0, PLAIN, NONE, 16));
    due(1, x.add(c, 0, PLAIN, NONE, 17));
    due(AMBIGUOUS, x.chooseFor(c, 0, NULL));
    for (int step = 0; step < 5; step++) {
      appliedAre(x, 1, 0, 1);
      due(0, x.special(0, 1));
      due(0, x.special(1, 0));
      due(1, x.special(1, 1));
      due(NONE, x.special(0, 2));
      if (step == 0) due(1, x.below(16, 17));
      if (step == 1) due(2, x.add(c, 0, PLAIN, NONE, OBJECT));
      if (step == 2) due(1, x.wipe());
      if (step == 3) due(1, x.lambda(0, 1, 0, 0, NONE));
    }
    due(0, x.chooseFor(c, 0, NULL));
    due(1, x.special(0, 1));
    due(0, x.special(1, 0));
    due(1, x.special(0, 2));
  }

  /** Section 3: "In PHASE 3 also the ARRAYS' TYPES of both themselves", with no ARGUMENTS there at all. */
  static void promise17VariedOnesWithoutArguments() {
    for (int p = 0; p <= NUMBER; p++) {
      for (int q = 0; q <= NUMBER; q++) {
        if (p == q) continue;
        Counted x = withClasses(1);
        due(0, x.add(16, 0, VARIED, NONE, ARRAY + p));
        due(1, x.add(16, 0, VARIED, NONE, ARRAY + q));
        int is = x.is(p, q), si = x.is(q, p);
        due(is == 1 ? 0 : si == 1 ? 1 : AMBIGUOUS, x.choose(16, 0, NONE, 0), p + " and " + q);
        due(is, x.special(0, 1), p + " and " + q);
        due(si, x.special(1, 0), p + " and " + q);
      }
    }
  }

  /** Section 3: the finer rule for a TOLD LAMBDA, for each two results and each that is given; none for one not TOLD. */
  static void promise17ResultsOfFunctions() {
    int[] results = {NONE, BOOL, INT, LONG, DOUBLE, BOXED_BOOL, BOXED_INT, BOXED_LONG, OBJECT, NUMBER, ARRAY + INT, 16};
    for (int p : results) {
      for (int q : results) {
        for (int given : results) {
          Counted x = withClasses(1);
          int f = x.addFunction(p, INT), g = x.addFunction(q, INT);
          due(2, x.add(16, 0, PLAIN, NONE, f, BOXED_INT));
          due(3, x.add(16, 0, PLAIN, NONE, g, BOXED_INT));
          boolean both = suits(x, given, p) && suits(x, given, q);
          boolean untold = (given == NONE) == (p == NONE) && (given == NONE) == (q == NONE);
          chooseInPhaseTwo(x, 1, given);
          due(!both ? NONE : isFiner(x, p, q, given) ? 1 : 0, x.special(2, 3), p + " and " + q + " for " + given);
          chooseInPhaseTwo(x, 0, given);
          due(!untold ? NONE : 0, x.special(2, 3), "not told, " + p + " and " + q + " for " + given);
        }
      }
    }
  }

  // The second parameter is boxed, so that LAMBDAS whose results FIT are all in one PHASE with those whose results ARE.
  private static void chooseInPhaseTwo(Counted x, int told, int given) {
    x.wipe();
    x.lambda(1, told, INT, 0, given);
    x.argument(INT);
    x.choose(16, 0, NONE, 0);
  }

  private static boolean suits(Counted x, int given, int result) {
    return given == NONE || result == NONE ? given == result : x.fits(given, result) == 1;
  }

  private static boolean isFiner(Counted x, int p, int q, int given) {
    if (q == NONE || x.is(p, q) == 1) return true;
    if (p <= DOUBLE && q > DOUBLE) return given <= DOUBLE;
    return p > DOUBLE && q <= DOUBLE && given > DOUBLE;
  }

  /** Section 3: the finer rule wants that "neither IS the other": of two FUNCTIONS the one below is more special. */
  static void promise17FunctionsThatAreOthers() {
    Counted x = withClasses(1);
    int f = x.addFunction(INT, INT), g = x.face();
    x.below(g, f);
    due(1, x.add(16, 0, PLAIN, NONE, f));
    due(2, x.add(16, 0, PLAIN, NONE, g));
    for (int told = 0; told < 2; told++) {
      due(2, x.chooseForLambda(16, 0, 1, told, INT));
      appliedAre(x, 1, 1, 2);
      due(0, x.special(1, 2));
      due(1, x.special(2, 1));
    }
  }

  /** Section 3: "in PHASE 3 from the last on the ARRAYS' TYPES", each from its own last parameter on. */
  static void promise17VariedOnesOfOtherWidths() {
    for (int p : new int[] {INT, LONG, OBJECT}) {
      for (int q : new int[] {INT, LONG, OBJECT}) {
        for (int many = 1; many <= 5; many++) {
          Counted x = withClasses(1);
          due(0, x.add(16, 0, VARIED, NONE, ARRAY + p));
          due(1, x.add(16, 0, VARIED, NONE, INT, ARRAY + q));
          int first = x.is(p, INT) & x.is(p, q), second = x.is(INT, p) & x.is(q, p);
          int want = first == second ? AMBIGUOUS : first == 1 ? 0 : 1;
          due(want, x.chooseFor(16, 0, ints(many)), p + " and " + q + " for " + many);
          appliedAre(x, 3, 0, 1);
          due(first, x.special(0, 1), p + " and " + q + " for " + many);
          due(second, x.special(1, 0), p + " and " + q + " for " + many);
        }
      }
    }
  }

  /** Section 3: "In PHASE 3 also the ARRAYS' TYPES": FUNCTIONS that are finer for all of 1 .. 5 LAMBDAS do not do. */
  static void promise17VariedOnesOfFunctions() {
    for (int many = 1; many <= 5; many++) {
      Counted x = withClasses(1);
      int f = x.addFunction(INT, INT), g = x.addFunction(LONG, INT), h = x.face();
      x.below(h, f);
      due(2, x.add(16, 0, VARIED, NONE, ARRAY + f));
      due(3, x.add(16, 0, VARIED, NONE, ARRAY + g));
      for (int k = 0; k < many; k++) x.lambda(1, 1, INT, 0, INT);
      due(AMBIGUOUS, x.choose(16, 0, NONE, 0), many + " lambdas");
      appliedAre(x, 3, 2, 3);
      due(0, x.special(2, 3));
      due(0, x.special(3, 2));
      due(4, x.add(16, 1, VARIED, NONE, ARRAY + f));
      due(5, x.add(16, 1, VARIED, NONE, ARRAY + h));
      due(5, x.choose(16, 1, NONE, 0), many + " lambdas");
      due(1, x.special(5, 4));
      due(0, x.special(4, 5));
    }
  }

  /** What it is: "An object is used for at most 512 calls": the 512th is answered as the first, behind refused ones. */
  static void whatItIsTheLastCallBehindRefusedOnes() {
    Counted x = new Counted();
    for (int k = 0; k < 511; k++) {
      int odd = k % 2 == 0 ? LEAST + k : MOST - k;
      if (k % 7 == 0) due(BAD, x.cls(odd));
      else if (k % 7 == 1) due(BAD, x.argument(odd));
      else if (k % 7 == 2) due(BAD, x.lambda(odd, 0, 0, 0, NONE));
      else if (k % 7 == 3) due(BAD, x.add(odd, 0, PLAIN, NONE));
      else if (k % 7 == 4) due(BAD, x.choose(odd, 0, NONE, 0));
      else if (k % 7 == 5) due(NONE, x.applied(odd));
      else due(BAD, x.below(odd, odd));
    }
    due(16, x.cls(OBJECT));
  }

  /** What it is: a full object that chooses up to its 512th call. */
  static void whatItIsTheLastChoice() {
    Counted x = withSixty();
    x.argument(27);
    x.argument(39);
    for (int k = 0; x.calls() < Counted.MOST_CALLS; k++) {
      due(k % 2 == 0 ? 59 : UNSEEN, x.choose(39, k % 2, NONE, 0), "call " + x.calls());
    }
  }

  /** What it is: a full object that is given ARGUMENTS and wiped up to its 512th call. */
  static void whatItIsTheLastArgument() {
    Counted x = FULL.fresh();
    due(5, x.wipe());
    for (int k = 0; x.calls() < Counted.MOST_CALLS; k = (k + 1) % 7) {
      due(k < 5 ? k + 1 : k == 5 ? BAD : 5, k < 6 ? x.argument(INT) : x.wipe(), "call " + x.calls());
    }
  }
}
