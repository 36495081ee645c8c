/** The limits that the document tells of TYPES: its terms, promises 1 to 4, 6 and 7. */
public final class EdgesOfTypes extends DocumentTest {
  public static void main(String[] args) throws Exception { runAll(EdgesOfTypes.class); }

  private static Counted mixed(int told) {
    Counted x = new Counted();
    for (int k = 0; k < told; k++) {
      if (k % 2 == 0) x.cls(OBJECT);
      else x.face();
    }
    return x;
  }

  /** Promises 6 to 8 and 11, terms: "0 bool .. 10 null's. 16 .. 39: told ones. 64 + t: ARRAYS of t (t being 0 .. 9 or a told one)", none told. */
  static void termsNumbersThatAreTypesOfANewObject() {
    for (int t : NUMBERS) {
      boolean good = t >= 0 && t <= 10 || t >= 64 && t <= 73;
      due(good ? 1 : BAD, new Counted().is(t, t), "is " + t);
      due(good ? 1 : BAD, new Counted().fits(t, t), "fits " + t);
      due(good ? NONE : BAD, new Counted().function(t), "function " + t);
      due(good ? 1 : BAD, new Counted().argument(t), "argument " + t);
    }
  }

  /** Promises 6, 8 and 11, terms: "16 .. 39: told ones", so many as have been told and no more, and their ARRAYS. */
  static void termsNumbersThatAreTypesWhenSomeAreTold() {
    for (int told : new int[] {1, 2, 5, 23, 24}) {
      for (int t : NUMBERS) {
        boolean good = isType(t, told);
        due(good ? 1 : BAD, mixed(told).is(t, t), "is " + t);
        due(good ? NONE : BAD, mixed(told).function(t), "function " + t);
        due(good ? 1 : BAD, mixed(told).argument(t), "argument " + t);
      }
    }
  }

  /** Promise 6, terms: the last told TYPE is one, the next is none yet, and so are their ARRAYS. */
  static void termsEachToldTypeComesWithItsArray() {
    Counted x = new Counted();
    for (int t = 16; t < 40; t++) {
      due(BAD, x.is(t, t));
      due(BAD, x.is(ARRAY + t, ARRAY + t));
      due(t, t % 3 == 0 ? x.face() : x.cls(OBJECT));
      due(1, x.is(t, OBJECT));
      due(1, x.is(ARRAY + t, ARRAY + OBJECT));
    }
    due(BAD, x.is(40, 40));
    due(BAD, x.is(104, 104));
  }

  /** Promise 6, terms: "S and T are one". */
  static void termsEachTypeIsItself() {
    for (int t : allTypes(24)) {
      due(1, mixed(24).is(t, t), "is " + t);
      due(1, mixed(24).fits(t, t), "fits " + t);
    }
  }

  /** Promise 6, terms: "int IS long, long IS double, int IS double", and no other two PRIMITIVES. */
  static void termsPrimitivesThatAreOthers() {
    Counted x = new Counted();
    for (int s = BOOL; s <= DOUBLE; s++) {
      for (int t = BOOL; t <= DOUBLE; t++) due(s == t || s >= INT && t > s ? 1 : 0, x.is(s, t), s + " " + t);
    }
  }

  /** Promise 6, terms: "All but PRIMITIVES are REFERENCES", "null's IS each REFERENCE; each REFERENCE IS Object". */
  static void termsReferencesBeginBehindDouble() {
    for (int t : allTypes(24)) {
      Counted x = mixed(24);
      due(t > DOUBLE ? 1 : 0, x.is(NULL, t), "null's is " + t);
      due(t > DOUBLE ? 1 : 0, x.is(t, OBJECT), t + " is Object");
      due(t == NULL ? 1 : 0, x.is(t, NULL), t + " is null's");
      due(t == OBJECT ? 1 : 0, x.is(OBJECT, t), "Object is " + t);
    }
  }

  /** Promise 6, terms: "Int, Long, Double ARE Number", Bool and all others not (but Number and null's). */
  static void termsBoxesThatAreNumbers() {
    for (int t : allTypes(24)) {
      boolean number = t >= BOXED_INT && t <= BOXED_DOUBLE || t == NUMBER || t == NULL;
      due(number ? 1 : 0, mixed(24).is(t, NUMBER), t + " is Number");
    }
  }

  /** Promise 6, terms: the BOXES are no PRIMITIVES, nor one another. */
  static void termsBoxesAreNoOthers() {
    Counted x = new Counted();
    for (int s = BOOL; s <= BOXED_DOUBLE; s++) {
      for (int t = BOXED_BOOL; t <= BOXED_DOUBLE; t++) {
        due(s == t ? 1 : 0, x.is(s, t));
        if (s < BOXED_BOOL) due(0, x.is(t, s));
      }
    }
  }

  /** Promise 6, terms: "a told one IS what it is below, and what that IS", through 24 CLASSES. */
  static void termsToldClassesThroughAllLevels() {
    for (int s = 16; s < 40; s++) {
      Counted x = withClasses(24);
      for (int t = 16; t < 40; t++) due(s >= t ? 1 : 0, x.is(s, t), s + " " + t);
      due(0, x.is(s, NUMBER));
    }
  }

  /** Promise 6, terms: the same through 24 INTERFACES, told from the top, from the bottom, and from both. */
  static void termsToldInterfacesThroughAllLevels() {
    for (int way = 0; way < 3; way++) {
      for (int s = 16; s < 40; s++) {
        Counted x = withFaces(24);
        for (int k = 0; k < 23; k++) {
          int step = way == 0 ? k : way == 1 ? 22 - k : k % 2 == 0 ? k / 2 : 22 - k / 2;
          due(1, x.below(17 + step, 16 + step));
        }
        for (int t = 16; t < 40; t++) due(s >= t ? 1 : 0, x.is(s, t), s + " " + t);
      }
    }
  }

  /** Promise 6, terms: "an ARRAY of a REFERENCE s IS an ARRAY of t if s IS t"; one of a PRIMITIVE is just itself. */
  static void termsArraysOfReferencesAlone() {
    int[] elements = {0, 1, 2, 3, 4, 5, 6, 7, 8, 9, 16, 17, 18};
    for (int s : elements) {
      Counted x = new Counted();
      x.cls(OBJECT);
      x.face();
      x.cls(16);
      x.below(18, 17);
      for (int t : elements) {
        int want = s == t || s > DOUBLE && x.is(s, t) == 1 ? 1 : 0;
        due(want, x.is(ARRAY + s, ARRAY + t), "array of " + s + " " + t);
        due(want, x.fits(ARRAY + s, ARRAY + t), "array of " + s + " " + t);
        due(t == OBJECT ? 1 : 0, x.is(ARRAY + s, t), "array of " + s + ", " + t);
        due(0, x.is(s, ARRAY + t), s + ", array of " + t);
        due(0, x.fits(s, ARRAY + t), s + ", array of " + t);
      }
    }
  }

  /** Promise 1: "No told TYPES, MEMBERS, ARGUMENTS", nor a choice. */
  static void promise01NothingIsTold() {
    Counted x = new Counted();
    for (int what = 0; what < 3; what++) due(0, x.count(what));
    due(0, x.phase());
    due(0, x.wipe());
    for (int i : new int[] {LEAST, -1, 0, 1, 59, 60, MOST}) {
      due(NONE, x.applied(i));
      due(NONE, x.special(i, i));
      due(NONE, x.special(0, i));
    }
    for (int t = 15; t <= 40; t++) {
      due(BAD, x.seen(t, 0, NONE));
      due(BAD, x.seenAt(t, 0, NONE, 0));
      due(BAD, x.choose(t, 0, NONE, 0));
      due(BAD, x.below(t, t));
      due(BAD, x.add(t, 0, PLAIN, NONE));
    }
    for (int what = 0; what < 3; what++) due(0, x.count(what));
  }

  /** Promise 1: a new object knows nothing of what another one has been told. */
  static void promise01ObjectsAreApart() {
    for (State state : new State[] {SOME, FULL}) {
      Counted old = state.fresh();
      Counted x = new Counted();
      for (int what = 0; what < 3; what++) due(0, x.count(what));
      due(0, x.phase());
      due(16, x.face());
      due(0, x.add(16, 0, ABSTRACT, NONE));
      due(1, x.argument(16));
      due(UNMEANT, x.choose(16, 0, NONE, 0));
      Counted untouched = state.fresh();
      for (int what = 0; what < 3; what++) due(untouched.count(what), old.count(what));
      due(1, old.phase());
    }
  }

  /** Promise 2: "A CLASS below another told CLASS, or Object (8): its number", from 16 on, and no INTERFACE. */
  static void promise02ClassesInOrder() {
    Counted x = new Counted();
    for (int t = 16; t < 40; t++) {
      due(t, x.cls(t % 4 == 0 ? OBJECT : t - 1));
      due(t - 15, x.count(0));
      due(1, x.is(t, OBJECT));
      if (t > 16) due(t % 4 == 0 ? 0 : 1, x.is(t, t - 1));
      due(BAD, x.below(16, t));
    }
  }

  /** Promise 2: "BAD: none such", for every number that is neither Object nor a told CLASS. */
  static void promise02ParentsInsideAndOutside() {
    for (int told : new int[] {0, 1, 6, 23}) {
      for (int parent : NUMBERS) {
        boolean good = parent == OBJECT || isToldType(parent, told);
        due(good ? 16 + told : BAD, withClasses(told).cls(parent), "cls " + parent);
        due(parent == OBJECT ? 16 + told : BAD, withFaces(told).cls(parent), "cls " + parent);
      }
    }
  }

  /** Promise 2: a CLASS is not below itself: the number that it would get is none yet. */
  static void promise02TheNextNumberIsNoParent() {
    for (int told = 0; told < 24; told++) due(BAD, withClasses(told).cls(16 + told));
  }

  /** Promise 2: "BAD: .. there are 24 told TYPES", CLASSES and INTERFACES together. */
  static void promise02FullAt24() {
    for (int faces = 0; faces <= 24; faces++) {
      Counted x = withFaces(faces);
      for (int t = 16 + faces; t < 40; t++) due(t, x.cls(OBJECT));
      for (int parent : new int[] {OBJECT, 16, 39, 40, LEAST, MOST}) due(BAD, x.cls(parent));
      due(24, x.count(0));
      due(1, x.is(39, OBJECT));
      due(BAD, x.is(40, OBJECT));
    }
  }

  /** Promise 2: what a refused call leaves. */
  static void promise02Refused() {
    for (int parent : new int[] {LEAST, -1, 0, 7, 9, 10, 15, 16, 17, 72, MOST}) refused(NOTHING, "cls", parent);
    for (int parent : new int[] {LEAST, -1, 7, 9, 15, 18, 20, 21, 40, 72, 80, MOST}) refused(SOME, "cls", parent);
    for (int parent : new int[] {LEAST, 8, 16, 27, 28, 39, 40, MOST}) refused(FULL, "cls", parent);
  }

  /** Promise 3: "An INTERFACE: its number", which a TYPE may be below and a CLASS may not extend. */
  static void promise03InterfacesInOrder() {
    Counted x = new Counted();
    for (int t = 16; t < 40; t++) {
      due(t, x.face());
      due(t - 15, x.count(0));
      due(1, x.is(t, OBJECT));
      due(0, x.is(t, NUMBER));
      due(BAD, x.cls(t));
      due(t == 16 ? BAD : 1, x.below(t, 16));
      due(t == 16 ? 1 : 0, x.is(16, t));
    }
  }

  /** Promise 3: "BAD: there are 24", INTERFACES and CLASSES together. */
  static void promise03FullAt24() {
    for (int classes = 0; classes <= 24; classes++) {
      Counted x = withClasses(classes);
      for (int t = 16 + classes; t < 40; t++) due(t, x.face());
      due(BAD, x.face());
      due(BAD, x.face());
      due(24, x.count(0));
      due(BAD, x.is(40, 40));
    }
  }

  /** Promise 3: what a refused call leaves. */
  static void promise03Refused() { refused(FULL, "face"); }

  /** Promise 4: "BAD: none such", for every number that is no told TYPE, or no told INTERFACE. */
  static void promise04TypesInsideAndOutside() {
    for (int told : new int[] {1, 6, 23}) {
      for (int t : NUMBERS) {
        Counted x = withClasses(told);
        int face = x.face();
        due(isToldType(t, told) ? 1 : BAD, x.below(t, face), "below " + t + ", a face");
        Counted y = withFaces(told);
        int type = y.cls(OBJECT);
        due(isToldType(t, told) ? 1 : BAD, y.below(type, t), "below a class, " + t);
      }
    }
  }

  /** Promise 4: "BAD: none such", on an object to which nothing has been told. */
  static void promise04OfANewObject() {
    for (int t : NUMBERS) {
      due(BAD, new Counted().below(t, t));
      due(BAD, new Counted().below(16, t));
    }
  }

  /** Promise 4: "a CLASS is no INTERFACE": nothing is below it by this call. */
  static void promise04AClassIsNoInterface() {
    Counted x = new Counted();
    int c = x.cls(OBJECT), d = x.cls(c), f = x.face(), e = x.cls(OBJECT);
    for (int type : new int[] {c, d, e, f}) {
      for (int face : new int[] {c, d, e, OBJECT, NUMBER}) due(BAD, x.below(type, face));
    }
    due(1, x.below(c, f));
    due(1, x.below(e, f));
  }

  /** Promise 4: "how many INTERFACES it is told to be below", 4 at most: "BAD: .. it has 4", a CLASS or an INTERFACE. */
  static void promise04FourAtMost() {
    for (int isFace = 0; isFace < 2; isFace++) {
      Counted x = new Counted();
      int type = isFace == 1 ? x.face() : x.cls(OBJECT);
      for (int k = 1; k <= 4; k++) due(k, x.below(type, x.face()));
      int fifth = x.face();
      due(BAD, x.below(type, fifth));
      due(BAD, x.below(type, fifth));
      due(0, x.is(type, fifth));
      for (int f = 17; f < 21; f++) {
        due(1, x.is(type, f));
        due(BAD, x.below(type, f));
      }
    }
  }

  /** Promise 4: those that it IS without having been told so do not count. */
  static void promise04InheritedOnesDoNotCount() {
    Counted x = new Counted();
    int c = x.cls(OBJECT), d = x.cls(c), e = x.cls(d);
    for (int k = 1; k <= 4; k++) due(k, x.below(c, x.face()));
    for (int k = 1; k <= 4; k++) due(k, x.below(d, x.face()));
    int face = x.face();
    due(BAD, x.below(c, face));
    due(BAD, x.below(d, face));
    due(1, x.below(e, face));
    due(2, x.below(e, 19));
    due(3, x.below(e, 23));
    for (int f = 19; f < 27; f++) due(1, x.is(e, f));
    for (int k = 1; k <= 4; k++) due(k, x.below(face, x.face()));
    due(4, x.below(e, 28));
    due(BAD, x.below(e, 29));
    due(1, x.is(e, 29));
  }

  /** Promise 4: "BAD: .. it has .. this one"; one that it IS through another it has not. */
  static void promise04EachOnce() {
    Counted x = withFaces(4);
    int c = x.cls(OBJECT);
    due(1, x.below(16, 17));
    due(BAD, x.below(16, 17));
    due(1, x.below(17, 18));
    due(2, x.below(16, 18));
    due(BAD, x.below(16, 18));
    due(BAD, x.below(16, 17));
    due(3, x.below(16, 19));
    due(1, x.below(c, 16));
    due(BAD, x.below(c, 16));
    due(2, x.below(c, 18));
    due(BAD, x.below(c, 18));
  }

  /** Promise 4: "BAD: .. that one IS the TYPE": itself, or one that is below it at any distance. */
  static void promise04NoneIsBelowWhatIsBelowIt() {
    for (int face = 16; face < 40; face++) {
      Counted x = withFaces(24);
      for (int t = 17; t < 40; t++) due(1, x.below(t, t - 1));
      for (int type = 16; type < 40; type++) {
        boolean good = type > face + 1;
        due(good ? 2 : BAD, x.below(type, face), type + " " + face);
      }
    }
  }

  /** Promise 4: "that one IS the TYPE" by what has been told later, too. */
  static void promise04NoRingThroughLaterOnes() {
    Counted x = withFaces(4);
    due(1, x.below(17, 16));
    due(1, x.below(19, 18));
    due(1, x.below(18, 17));
    for (int face = 16; face < 20; face++) due(BAD, x.below(16, face));
    due(BAD, x.below(17, 19));
    due(2, x.below(19, 16));
  }

  /** Promise 4: what has been told before counts at once for SEEN MEMBERS, FUNCTIONS and choices. */
  static void promise04CountsAtOnce() {
    Counted x = new Counted();
    int f = x.addFunction(INT, INT), g = x.face(), c = x.cls(OBJECT), d = x.cls(c);
    due(NONE, x.function(g));
    due(0, x.seen(d, 0, NONE));
    due(UNSEEN, x.chooseFor(d, 0, INT));
    due(1, x.below(g, f));
    due(0, x.function(g));
    due(1, x.below(c, g));
    due(1, x.seen(d, 0, NONE));
    due(0, x.chooseFor(d, 0, INT));
    due(1, x.is(ARRAY + d, ARRAY + f));
  }

  /** Promise 4: what a refused call leaves. */
  static void promise04Refused() {
    for (int t : new int[] {LEAST, -1, 16, 39, MOST}) refused(NOTHING, "below", t, 16);
    for (int t : new int[] {LEAST, -1, 8, 15, 21, 40, 80, MOST}) {
      refused(SOME, "below", t, 18);
      refused(SOME, "below", 16, t);
    }
    int[][] wrong = {{17, 18}, {18, 18}, {19, 18}, {20, 20}, {17, 16}, {16, 17}, {18, 16}, {18, 19}};
    for (int[] pair : wrong) refused(SOME, "below", pair[0], pair[1]);
    int[][] more = {{27, 32}, {27, 28}, {28, 36}, {28, 32}, {32, 28}, {38, 39}, {39, 39}, {16, 27}, {16, 40}, {40, 28}};
    for (int[] pair : more) refused(FULL, "below", pair[0], pair[1]);
  }

  /** Promise 6: "BAD: one is no TYPE", the first, the second or both. */
  static void promise06BadForEitherSide() {
    for (int told : new int[] {0, 3, 24}) {
      for (int t : NUMBERS) {
        boolean good = isType(t, told);
        Counted x = mixed(told);
        due(good ? t > DOUBLE ? 1 : 0 : BAD, x.is(t, OBJECT), "is " + t + ", Object");
        due(good ? t > DOUBLE ? 1 : 0 : BAD, x.is(NULL, t), "is null's, " + t);
        due(BAD, x.is(t, 16 + told));
        due(BAD, x.is(80 + told, t));
      }
    }
  }

  /** Promise 6: what a refused call leaves. */
  static void promise06Refused() {
    for (int t : new int[] {LEAST, -1, 11, 15, 40, 63, 74, 79, 104, MOST}) {
      for (State state : new State[] {NOTHING, SOME, FULL}) {
        refused(state, "is", t, INT);
        refused(state, "is", NULL, t);
      }
    }
  }

  /** Promise 7: "BAD", as for is(). */
  static void promise07BadForEitherSide() {
    for (int told : new int[] {0, 3, 24}) {
      for (int t : NUMBERS) {
        boolean good = isType(t, told);
        Counted x = mixed(told);
        due(good ? 1 : BAD, x.fits(t, OBJECT), "fits " + t + ", Object");
        due(good ? t > DOUBLE ? 1 : 0 : BAD, x.fits(NULL, t), "fits null's, " + t);
        due(BAD, x.fits(t, 16 + told));
        due(BAD, x.fits(80 + told, t));
      }
    }
  }

  /** Promise 7, terms: "S is a PRIMITIVE, and its BOX IS T": the box, Object and, but for bool, Number. */
  static void promise07PrimitivesFitWhatTheirBoxesAre() {
    for (int s = BOOL; s <= DOUBLE; s++) {
      for (int t : allTypes(24)) {
        boolean boxed = t == s + 4 || t == OBJECT || t == NUMBER && s != BOOL;
        boolean wider = t <= DOUBLE && (t == s || s != BOOL && t > s);
        due(boxed || wider ? 1 : 0, mixed(24).fits(s, t), s + " " + t);
      }
    }
  }

  /** Promise 7, terms: "S is a BOX, and its PRIMITIVE IS T"; Number, Object and null's are no BOXES. */
  static void promise07BoxesFitWhatTheirPrimitivesAre() {
    for (int s = BOXED_BOOL; s <= NULL; s++) {
      boolean box = s <= BOXED_DOUBLE;
      for (int t = BOOL; t <= DOUBLE; t++) {
        boolean fits = box && (t == s - 4 || s != BOXED_BOOL && t > s - 4);
        due(fits ? 1 : 0, new Counted().fits(s, t), s + " " + t);
      }
      for (int t = BOXED_BOOL; t <= NULL; t++) {
        Counted x = new Counted();
        due(x.is(s, t), x.fits(s, t), s + " " + t);
      }
    }
  }

  /** Promise 7, terms: told ones and ARRAYS have no BOX. */
  static void promise07OthersFitWhatTheyAre() {
    int[] all = {16, 17, ARRAY, ARRAY + INT, ARRAY + BOXED_INT, ARRAY + OBJECT, ARRAY + 16};
    for (int s : all) {
      for (int t : allTypes(2)) {
        Counted x = mixed(2);
        due(x.is(s, t), x.fits(s, t), s + " " + t);
      }
    }
  }

  /** Promise 7: what a refused call leaves. */
  static void promise07Refused() {
    for (int t : new int[] {LEAST, -1, 11, 15, 40, 63, 74, 79, 104, MOST}) {
      for (State state : new State[] {NOTHING, SOME, FULL}) {
        refused(state, "fits", t, INT);
        refused(state, "fits", NULL, t);
      }
    }
  }
}
