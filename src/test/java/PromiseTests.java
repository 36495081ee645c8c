/** One test at least for each promise of the document, with answers read off its words by hand. */
public final class PromiseTests {
  private static final int NONE = MemberChoice.NONE, BAD = MemberChoice.BAD;
  private static final int STATIC = 1, PRIVATE = 2, ABSTRACT = 4, VARIED = 8;
  private static final int BOOL = 0, INT = 1, LONG = 2, DOUBLE = 3, BOXED_BOOL = 4, BOXED_INT = 5, BOXED_LONG = 6;
  private static final int BOXED_DOUBLE = 7, OBJECT = 8, NUMBER = 9, NULL = 10, ARRAY = 64;
  private static final int LEAST = Integer.MIN_VALUE, MOST = Integer.MAX_VALUE;
  private static int passed = 0, failed = 0;
  private static String title = "";

  private static void due(int want, int got) {
    if (got == want) {
      passed++;
      return;
    }
    failed++;
    int line = StackWalker.getInstance().walk(s -> s.skip(1).findFirst().get().getLineNumber());
    System.out.println(title + ", line " + line + ": answered " + got + ", due is " + want);
  }

  /** A MEMBER whose parameters are told without the ones that do not matter. */
  private static int add(MemberChoice x, int type, int name, int marks, int result, int... p) {
    int[] all = {-77, -77, -77, -77};
    System.arraycopy(p, 0, all, 0, p.length);
    return x.member(type, name, marks, result, p.length, all[0], all[1], all[2], all[3]);
  }

  private static int choose(MemberChoice x, int type, int name, int... arguments) {
    x.wipe();
    for (int a : arguments) x.argument(a);
    return x.choose(type, name, NONE, 0);
  }

  private static int chooseForLambda(MemberChoice x, int type, int name, int told, int result) {
    x.wipe();
    x.lambda(1, told, INT, 0, result);
    return x.choose(type, name, NONE, 0);
  }

  /** An INTERFACE with one abstract MEMBER of name 0. */
  private static int functionFace(MemberChoice x, int result, int... p) {
    int face = x.face();
    add(x, face, 0, ABSTRACT, result, p);
    return face;
  }

  private static void aNewObject() {
    title = "promise 1";
    MemberChoice x = new MemberChoice();
    for (int what = 0; what < 3; what++) due(0, x.count(what));
    due(0, x.phase());
    due(NONE, x.applied(0));
    due(NONE, x.special(0, 0));
    due(0, x.wipe());
    due(BAD, x.is(16, 16));
    x.face();
    MemberChoice y = new MemberChoice();
    due(0, y.count(0));
    due(16, y.cls(8));
  }

  private static void cls() {
    title = "promise 2";
    MemberChoice x = new MemberChoice();
    int[] wrong = {LEAST, -1, 0, 7, 9, 10, 15, 16, 17, 40, 64, 72, 80, MOST};
    for (int parent : wrong) due(BAD, x.cls(parent));
    due(16, x.cls(8));
    due(17, x.cls(16));
    due(18, x.face());
    due(BAD, x.cls(18));
    due(BAD, x.cls(19));
    due(BAD, x.cls(80));
    due(1, x.is(17, 16));
    due(0, x.is(16, 17));
    for (int t = 19; t < 40; t++) due(t, x.cls(t == 30 ? 8 : 17));
    due(BAD, x.cls(8));
    due(BAD, x.cls(16));
    due(24, x.count(0));
    due(1, x.is(39, 16));
    due(0, x.is(30, 16));
  }

  private static void face() {
    title = "promise 3";
    MemberChoice x = new MemberChoice();
    for (int t = 16; t < 40; t++) due(t, x.face());
    due(BAD, x.face());
    due(24, x.count(0));
    due(BAD, x.cls(20));
    due(1, x.is(39, OBJECT));
    due(0, x.is(39, 38));
  }

  private static void below() {
    title = "promise 4";
    MemberChoice x = new MemberChoice();
    int c = x.cls(8), d = x.cls(c);
    int[] f = new int[6];
    for (int k = 0; k < 6; k++) f[k] = x.face();
    int[] wrong = {LEAST, -1, 0, 8, 10, 15, 24, 40, ARRAY + f[0], MOST};
    for (int t : wrong) due(BAD, x.below(t, f[0]));
    for (int t : wrong) due(BAD, x.below(c, t));
    due(BAD, x.below(f[0], c));
    due(BAD, x.below(d, c));
    due(BAD, x.below(f[0], f[0]));
    due(1, x.below(f[0], f[1]));
    due(BAD, x.below(f[0], f[1]));
    due(BAD, x.below(f[1], f[0]));
    due(1, x.below(f[1], f[2]));
    due(BAD, x.below(f[2], f[0]));
    due(1, x.below(c, f[0]));
    due(1, x.is(d, f[2]));
    due(2, x.below(c, f[2]));
    due(1, x.below(d, f[0]));
    due(3, x.below(c, f[3]));
    due(4, x.below(c, f[4]));
    due(BAD, x.below(c, f[5]));
    due(0, x.is(c, f[5]));
    due(1, x.is(d, f[4]));
    due(2, x.below(f[0], f[5]));
    due(1, x.is(d, f[5]));
    due(BAD, x.below(f[5], f[0]));
  }

  private static void member() {
    title = "promise 5";
    MemberChoice x = new MemberChoice();
    int c = x.cls(8), f = x.face();
    due(BAD, add(x, 15, 0, 0, NONE));
    due(BAD, add(x, 18, 0, 0, NONE));
    due(BAD, add(x, OBJECT, 0, 0, NONE));
    due(BAD, add(x, ARRAY + c, 0, 0, NONE));
    due(BAD, add(x, c, -1, 0, NONE));
    due(BAD, add(x, c, 16, 0, NONE));
    due(BAD, add(x, c, 0, -1, NONE));
    due(BAD, add(x, c, 0, 16, NONE));
    due(BAD, add(x, c, 0, ABSTRACT | STATIC, NONE));
    due(BAD, add(x, f, 0, ABSTRACT | STATIC, NONE));
    due(BAD, add(x, f, 0, ABSTRACT | PRIVATE, NONE));
    due(BAD, add(x, c, 0, 0, NULL));
    due(BAD, add(x, c, 0, 0, -2));
    due(BAD, add(x, c, 0, 0, 18));
    due(BAD, add(x, c, 0, 0, ARRAY + NULL));
    due(BAD, x.member(c, 0, 0, NONE, -1, 1, 1, 1, 1));
    due(BAD, x.member(c, 0, 0, NONE, 5, 1, 1, 1, 1));
    due(BAD, x.member(c, 0, 0, NONE, LEAST, 1, 1, 1, 1));
    due(BAD, x.member(c, 0, 0, NONE, MOST, 1, 1, 1, 1));
    due(BAD, add(x, c, 0, 0, NONE, NULL));
    due(BAD, add(x, c, 0, 0, NONE, INT, INT, INT, NONE));
    due(BAD, add(x, c, 0, 0, NONE, INT, ARRAY + ARRAY));
    due(BAD, add(x, c, 0, VARIED, NONE));
    due(BAD, add(x, c, 0, VARIED, NONE, ARRAY + INT, INT));
    due(0, x.count(1));
    due(0, x.seen(c, 0, c));
    due(BAD, add(x, f, 0, ABSTRACT | VARIED, NONE, INT));
    due(NONE, x.function(f));
    due(BAD, add(x, f, 0, ABSTRACT | STATIC, NONE));
    due(0, x.seen(f, 0, NONE));
    due(0, add(x, c, 0, ABSTRACT | PRIVATE, NONE));
    due(1, add(x, f, 0, STATIC | PRIVATE, NONE));
    due(2, add(x, c, 15, VARIED, ARRAY + f, INT, ARRAY + INT));
    due(BAD, add(x, c, 15, 0, NONE, INT, ARRAY + INT));
    due(BAD, x.member(c, 0, STATIC, INT, 0, 5, 5, 5, 5));
    due(3, add(x, c, 15, 0, NONE, INT, ARRAY + LONG));
    due(4, add(x, f, 15, 0, NONE, INT, ARRAY + INT));
    due(5, add(x, c, 14, 0, NONE, INT, ARRAY + INT));
    due(6, add(x, c, 15, 0, NONE, INT));
    due(7, add(x, c, 0, 0, NONE, INT, INT, INT, INT));
    due(8, add(x, c, 0, 0, NONE, INT, INT, INT, LONG));
    int number = 9;
    for (int p = 0; p < 10; p++) {
      for (int q = 0; q < 10 && number < 60; q++) due(number++, add(x, f, 3, 0, NONE, p, q));
    }
    due(BAD, add(x, f, 4, 0, NONE));
    due(60, x.count(1));
    due(51, x.seen(f, 3, NONE));
  }

  private static void is() {
    title = "promise 6";
    MemberChoice x = new MemberChoice();
    int c = x.cls(8), f = x.face(), g = x.face();
    x.below(c, f);
    x.below(f, g);
    int[] all = {0, 1, 2, 3, 4, 5, 6, 7, 8, 9, 10, c, f, g, 64, 65, 66, 69, 70, 72, 73, 64 + c, 64 + f, 64 + g};
    String[] above = {"0", "1 2 3", "2 3", "3", "4 8", "5 8 9", "6 8 9", "7 8 9", "8", "9 8",
      "4 5 6 7 8 9 10 16 17 18 64 65 66 69 70 72 73 80 81 82", "16 17 18 8", "17 18 8", "18 8", "64 8", "65 8", "66 8",
      "69 72 73 8", "70 72 73 8", "72 8", "73 72 8", "80 81 82 72 8", "81 82 72 8", "82 72 8"};
    for (int i = 0; i < all.length; i++) {
      for (int t : all) due((" " + above[i] + " ").contains(" " + t + " ") ? 1 : 0, x.is(all[i], t));
    }
    int[] wrong = {LEAST, -1, 11, 15, 19, 39, 40, 63, 74, 79, 83, 103, 104, 128, MOST};
    for (int t : wrong) {
      due(BAD, x.is(t, 1));
      due(BAD, x.is(1, t));
      due(BAD, x.is(t, t));
    }
  }

  private static void fits() {
    title = "promise 7";
    MemberChoice x = new MemberChoice();
    int c = x.cls(8), f = x.face();
    x.below(c, f);
    int[] all = {0, 1, 2, 3, 4, 5, 6, 7, 8, 9, 10, c, f, 65, 69, 72, 80};
    String[] fit = {"0 4 8", "1 2 3 5 8 9", "2 3 6 8 9", "3 7 8 9", "4 8 0", "5 8 9 1 2 3", "6 8 9 2 3", "7 8 9 3", "8",
      "9 8", "4 5 6 7 8 9 10 16 17 65 69 72 80", "16 17 8", "17 8", "65 8", "69 72 8", "72 8", "80 72 8"};
    for (int i = 0; i < all.length; i++) {
      for (int t : all) due((" " + fit[i] + " ").contains(" " + t + " ") ? 1 : 0, x.fits(all[i], t));
    }
    int[] wrong = {LEAST, -1, 11, 15, 18, 40, 63, 74, 82, 128, MOST};
    for (int t : wrong) {
      due(BAD, x.fits(t, 8));
      due(BAD, x.fits(8, t));
    }
  }

  private static void function() {
    title = "promise 8";
    MemberChoice x = new MemberChoice();
    int f = x.face(), g = x.face(), h = x.face(), c = x.cls(8);
    due(NONE, x.function(f));
    due(0, add(x, g, 1, ABSTRACT, INT, LONG));
    due(NONE, x.function(f));
    due(0, x.function(g));
    due(1, add(x, f, 1, ABSTRACT, LONG, LONG));
    due(1, x.function(f));
    x.below(h, f);
    due(1, x.function(h));
    x.below(h, g);
    due(0, x.function(h));
    due(2, add(x, h, 2, 0, NONE, INT));
    due(0, x.function(h));
    due(3, add(x, h, 1, ABSTRACT, NONE, LONG));
    due(3, x.function(h));
    due(1, x.function(f));
    due(4, add(x, h, 1, ABSTRACT, NONE, INT));
    due(NONE, x.function(h));
    int i = x.face();
    due(NONE, x.function(i));
    x.below(i, f);
    due(5, add(x, i, 1, 0, LONG, LONG));
    due(NONE, x.function(i));
    int j = x.face();
    x.below(j, i);
    due(6, add(x, j, 3, ABSTRACT, LONG, LONG));
    due(6, x.function(j));
    due(7, add(x, f, 4, ABSTRACT, LONG, LONG));
    due(NONE, x.function(j));
    due(NONE, x.function(f));
    due(8, add(x, c, 4, ABSTRACT, LONG, LONG));
    int[] none = {0, 7, 8, 9, 10, c, ARRAY + g, 64};
    for (int t : none) due(NONE, x.function(t));
    int[] wrong = {LEAST, -1, 11, 15, 22, 40, 74, 128, MOST};
    for (int t : wrong) due(BAD, x.function(t));
  }

  private static void seen() {
    title = "promises 9, 10";
    MemberChoice x = new MemberChoice();
    int a = x.cls(8), b = x.cls(a), c = x.cls(b), f = x.face(), g = x.face();
    x.below(b, f);
    x.below(c, g);
    x.below(f, g);
    add(x, g, 0, ABSTRACT, NONE, INT);
    add(x, a, 0, 0, NONE, INT);
    add(x, b, 0, STATIC, NONE, INT);
    add(x, c, 0, PRIVATE, NONE, INT);
    add(x, f, 0, 0, NONE, INT);
    add(x, a, 0, PRIVATE, NONE, LONG);
    add(x, b, 0, 0, NONE, LONG);
    add(x, c, 0, 0, NONE, LONG);
    add(x, c, 0, 0, NONE, LONG, LONG);
    add(x, c, 1, 0, NONE, LONG);
    seenIs(x, g, 0, NONE, 0);
    seenIs(x, f, 0, NONE, 4);
    seenIs(x, a, 0, NONE, 1);
    seenIs(x, a, 0, b, 1);
    seenIs(x, a, 0, a, 1, 5);
    seenIs(x, b, 0, NONE, 1, 2, 4, 6);
    seenIs(x, c, 0, NONE, 1, 2, 4, 7, 8);
    seenIs(x, c, 0, a, 1, 2, 4, 5, 7, 8);
    seenIs(x, c, 0, c, 1, 2, 3, 4, 7, 8);
    seenIs(x, c, 0, g, 1, 2, 4, 7, 8);
    seenIs(x, c, 1, NONE, 9);
    seenIs(x, c, 15, NONE);
    due(BAD, add(x, b, 0, 0, NULL, INT));
    seenIs(x, b, 0, NONE, 1, 2, 4, 6);
    int[] wrong = {LEAST, -2, 0, 8, 10, 15, 21, 40, ARRAY + c, MOST};
    for (int t : wrong) {
      due(BAD, x.seen(t, 0, NONE));
      due(BAD, x.seen(c, 0, t));
      due(BAD, x.seenAt(t, 0, NONE, 0));
      due(BAD, x.seenAt(c, 0, t, 0));
    }
    due(BAD, x.seen(NONE, 0, NONE));
    for (int name : new int[] {LEAST, -1, 16, MOST}) {
      due(BAD, x.seen(c, name, NONE));
      due(BAD, x.seenAt(c, name, NONE, 0));
      due(BAD, x.seenAt(c, name, NONE, -1));
    }
  }

  private static void seenIs(MemberChoice x, int type, int name, int from, int... want) {
    due(want.length, x.seen(type, name, from));
    for (int i = 0; i < want.length; i++) due(want[i], x.seenAt(type, name, from, i));
    for (int i : new int[] {LEAST, -1, want.length, 59, 60, 61, MOST}) due(NONE, x.seenAt(type, name, from, i));
  }

  private static void argument() {
    title = "promise 11";
    MemberChoice x = new MemberChoice();
    for (int t : new int[] {LEAST, -1, 11, 15, 16, 40, 63, 74, 80, 128, MOST}) due(BAD, x.argument(t));
    due(0, x.count(2));
    int c = x.cls(8);
    due(1, x.argument(NULL));
    due(2, x.argument(c));
    due(3, x.argument(ARRAY + c));
    due(4, x.argument(BOOL));
    due(5, x.argument(OBJECT));
    due(BAD, x.argument(OBJECT));
    due(BAD, x.lambda(0, 0, 0, 0, NONE));
    due(5, x.count(2));
  }

  private static void lambda() {
    title = "promise 12";
    MemberChoice x = new MemberChoice();
    int c = x.cls(8);
    for (int n : new int[] {LEAST, -1, 3, MOST}) due(BAD, x.lambda(n, 0, 1, 1, 1));
    for (int told : new int[] {LEAST, -1, 2, MOST}) due(BAD, x.lambda(0, told, 1, 1, 1));
    for (int t : new int[] {LEAST, -1, NULL, 11, 17, 74, 128, MOST}) {
      due(BAD, x.lambda(1, 1, t, 1, 1));
      due(BAD, x.lambda(2, 1, t, 1, 1));
      due(BAD, x.lambda(2, 1, 1, t, 1));
    }
    for (int t : new int[] {LEAST, -2, NULL, 11, 17, 74, 128, MOST}) {
      due(BAD, x.lambda(0, 0, 1, 1, t));
      due(BAD, x.lambda(1, 1, 1, 1, t));
    }
    due(0, x.count(2));
    due(1, x.lambda(2, 0, NULL, MOST, NONE));
    due(2, x.lambda(0, 1, NULL, NONE, ARRAY + c));
    due(3, x.lambda(1, 1, ARRAY + c, MOST, c));
    due(4, x.lambda(2, 1, BOOL, OBJECT, NONE));
    due(5, x.lambda(0, 0, 0, 0, 0));
    due(BAD, x.lambda(0, 0, 0, 0, 0));
    due(BAD, x.argument(1));
    due(5, x.wipe());
  }

  private static void wipe() {
    title = "promise 13";
    MemberChoice x = new MemberChoice();
    int c = x.cls(8), f = functionFace(x, NONE);
    add(x, c, 0, 0, NONE, INT);
    add(x, c, 0, 0, NONE, f);
    due(0, x.wipe());
    x.lambda(0, 1, 0, 0, NONE);
    due(2, x.choose(c, 0, NONE, 0));
    due(1, x.wipe());
    due(0, x.wipe());
    due(1, x.argument(INT));
    due(1, x.choose(c, 0, NONE, 0));
    due(2, x.argument(INT));
    due(2, x.wipe());
    due(0, x.count(2));
    due(MemberChoice.UNMEANT, x.choose(c, 0, NONE, 0));
    due(3, x.count(1));
  }

  private static void chooseByPhases() {
    title = "promise 14, phases";
    MemberChoice x = new MemberChoice();
    int c = x.cls(8);
    due(MemberChoice.UNSEEN, choose(x, c, 0));
    int exact = add(x, c, 0, 0, NONE, LONG);
    int boxed = add(x, c, 0, 0, NONE, BOXED_INT);
    int varied = add(x, c, 0, VARIED, NONE, ARRAY + INT);
    due(MemberChoice.UNSEEN, choose(x, c, 1));
    due(exact, choose(x, c, 0, INT));
    due(1, x.phase());
    due(boxed, choose(x, c, 0, BOXED_INT));
    due(MemberChoice.UNFIT, choose(x, c, 0, BOOL));
    due(0, x.phase());
    due(exact, choose(x, c, 0, BOXED_LONG));
    due(2, x.phase());
    due(varied, choose(x, c, 0));
    due(3, x.phase());
    due(varied, choose(x, c, 0, INT, BOXED_INT, INT, INT, BOXED_INT));
    due(MemberChoice.UNFIT, choose(x, c, 0, INT, LONG));
    due(varied, choose(x, c, 0, ARRAY + INT));
    due(1, x.phase());
    due(MemberChoice.AMBIGUOUS, choose(x, c, 0, NULL));
    int bools = add(x, c, 4, VARIED, NONE, ARRAY + BOOL);
    due(bools, choose(x, c, 4, BOXED_BOOL, BOOL));
    due(bools, choose(x, c, 4, ARRAY + BOOL));
    due(MemberChoice.UNFIT, choose(x, c, 4, ARRAY + BOXED_BOOL));
    int wide = add(x, c, 2, VARIED, NONE, LONG, INT, ARRAY + OBJECT);
    due(MemberChoice.UNMEANT, choose(x, c, 2, INT));
    due(wide, choose(x, c, 2, INT, INT));
    due(3, x.phase());
    due(wide, choose(x, c, 2, INT, INT, NULL));
    due(1, x.phase());
    due(wide, choose(x, c, 2, INT, INT, ARRAY + BOXED_INT));
    due(1, x.phase());
    due(wide, choose(x, c, 2, INT, INT, ARRAY + INT));
    due(3, x.phase());
    due(wide, choose(x, c, 2, INT, INT, INT));
    due(wide, choose(x, c, 2, INT, INT, INT, NULL, c));
    due(MemberChoice.UNFIT, choose(x, c, 2, INT, LONG, INT));
    int four = add(x, c, 3, 0, NONE, INT, INT, INT, INT);
    due(four, choose(x, c, 3, INT, INT, INT, INT));
    due(MemberChoice.UNMEANT, choose(x, c, 3, INT, INT, INT));
    due(MemberChoice.UNMEANT, choose(x, c, 3, INT, INT, INT, INT, INT));
  }

  private static void chooseSpecial() {
    title = "promise 14, the most special one";
    MemberChoice x = new MemberChoice();
    int c = x.cls(8), d = x.cls(c);
    add(x, c, 0, 0, NONE, OBJECT, INT);
    int better = add(x, c, 0, 0, NONE, NUMBER, INT);
    due(better, choose(x, c, 0, BOXED_INT, INT));
    add(x, c, 0, 0, NONE, OBJECT, LONG);
    due(better, choose(x, c, 0, BOXED_INT, INT));
    add(x, c, 0, 0, NONE, BOXED_INT, LONG);
    due(MemberChoice.AMBIGUOUS, choose(x, c, 0, BOXED_INT, INT));
    int varied = add(x, c, 1, VARIED, NONE, ARRAY + INT);
    int longs = add(x, c, 1, VARIED, NONE, ARRAY + LONG);
    due(varied, choose(x, c, 1, INT));
    due(varied, choose(x, c, 1));
    due(longs, choose(x, c, 1, LONG));
    due(1, x.special(longs, longs));
    int more = add(x, c, 1, VARIED, NONE, INT, ARRAY + INT);
    due(MemberChoice.AMBIGUOUS, choose(x, c, 1, INT));
    due(varied, choose(x, c, 1));
    due(1, x.special(varied, longs));
    due(0, x.special(longs, varied));
    due(NONE, x.special(more, varied));
    int objects = add(x, c, 2, VARIED, NONE, INT, ARRAY + OBJECT);
    int ints = add(x, c, 2, VARIED, NONE, ARRAY + INT);
    due(MemberChoice.AMBIGUOUS, choose(x, c, 2, INT));
    due(0, x.special(objects, ints));
    due(0, x.special(ints, objects));
    int abstractOne = add(x, d, 3, ABSTRACT, NONE, INT);
    int staticOne = add(x, c, 3, STATIC, NONE, INT);
    due(staticOne, choose(x, d, 3, INT));
    due(1, x.special(abstractOne, staticOne));
    due(staticOne, x.choose(d, 3, NONE, 1));
    int f = x.face();
    x.below(d, f);
    add(x, f, 3, STATIC, NONE, INT);
    due(MemberChoice.AMBIGUOUS, choose(x, d, 3, INT));
    int g = x.face(), h = x.face(), i = x.cls(8);
    x.below(i, h);
    x.below(i, g);
    int first = add(x, h, 4, ABSTRACT, INT, INT);
    add(x, g, 4, ABSTRACT, LONG, INT);
    due(first, choose(x, i, 4, INT));
    due(MemberChoice.INSTANCE, x.choose(i, 4, NONE, 1));
    add(x, g, 4, ABSTRACT, LONG, BOXED_INT);
    due(first, choose(x, i, 4, INT));
  }

  private static void chooseWrongly() {
    title = "promise 14, wrong inputs and static places";
    MemberChoice x = new MemberChoice();
    int c = x.cls(8);
    int plain = add(x, c, 0, 0, NONE);
    int fixed = add(x, c, 1, STATIC, NONE);
    int secret = add(x, c, 2, PRIVATE | STATIC, NONE);
    due(plain, x.choose(c, 0, NONE, 0));
    due(MemberChoice.INSTANCE, x.choose(c, 0, NONE, 1));
    due(1, x.phase());
    due(plain, x.applied(0));
    due(fixed, x.choose(c, 1, NONE, 1));
    due(fixed, x.choose(c, 1, NONE, 0));
    due(MemberChoice.UNSEEN, x.choose(c, 2, NONE, 1));
    due(secret, x.choose(c, 2, c, 1));
    for (int t : new int[] {LEAST, -2, 0, 8, 17, 40, ARRAY + c, MOST}) {
      due(BAD, x.choose(t, 1, NONE, 0));
      due(BAD, x.choose(c, 1, t, 0));
    }
    due(BAD, x.choose(NONE, 1, NONE, 0));
    for (int name : new int[] {LEAST, -1, 16, MOST}) due(BAD, x.choose(c, name, NONE, 0));
    for (int place : new int[] {LEAST, -1, 2, MOST}) due(BAD, x.choose(c, 1, NONE, place));
    due(1, x.phase());
    due(secret, x.applied(0));
    due(1, x.special(secret, secret));
  }

  private static void chooseForLambdas() {
    title = "promise 14, lambdas";
    MemberChoice x = new MemberChoice();
    int toInt = functionFace(x, INT, INT), toBox = functionFace(x, BOXED_INT, INT), toNone = functionFace(x, NONE, INT);
    int fromLong = functionFace(x, INT, LONG), toLong = functionFace(x, LONG, INT), toNumber = functionFace(x, NUMBER, INT);
    int c = x.cls(8);
    int a = add(x, c, 0, 0, NONE, toInt), b = add(x, c, 0, 0, NONE, toBox), n = add(x, c, 0, 0, NONE, toNone);
    due(a, chooseForLambda(x, c, 0, 1, INT));
    due(NONE, x.special(a, b));
    due(b, chooseForLambda(x, c, 0, 1, BOXED_INT));
    due(n, chooseForLambda(x, c, 0, 1, NONE));
    due(MemberChoice.AMBIGUOUS, chooseForLambda(x, c, 0, 0, INT));
    due(0, x.special(a, b));
    due(1, x.special(b, b));
    due(n, chooseForLambda(x, c, 0, 0, NONE));
    due(MemberChoice.UNFIT, chooseForLambda(x, c, 0, 1, OBJECT));
    int l = add(x, c, 1, 0, NONE, toLong), m = add(x, c, 1, 0, NONE, toNumber);
    due(l, chooseForLambda(x, c, 1, 1, INT));
    due(m, chooseForLambda(x, c, 1, 1, BOXED_INT));
    int pairA = add(x, c, 2, 0, NONE, toInt, toNone), pairB = add(x, c, 2, 0, NONE, toNumber, toNone);
    x.wipe();
    x.lambda(1, 1, INT, 0, BOXED_INT);
    x.lambda(1, 0, 0, 0, NONE);
    due(pairB, x.choose(c, 2, NONE, 0));
    due(1, x.phase());
    due(NONE, x.special(pairA, pairB));
    int boxA = add(x, c, 3, 0, NONE, toInt, BOXED_INT), boxB = add(x, c, 3, 0, NONE, toNumber, BOXED_INT);
    lambdaAndInt(x, BOXED_INT);
    due(boxB, x.choose(c, 3, NONE, 0));
    due(2, x.phase());
    due(0, x.special(boxA, boxB));
    due(1, x.special(boxB, boxA));
    lambdaAndInt(x, INT);
    due(boxA, x.choose(c, 3, NONE, 0));
    due(1, x.special(boxA, boxB));
    due(0, x.special(boxB, boxA));
    add(x, c, 3, 0, NONE, toLong, BOXED_INT);
    due(boxA, x.choose(c, 3, NONE, 0));
    int toDouble = functionFace(x, DOUBLE, INT);
    int narrow = add(x, c, 5, 0, NONE, toInt), broad = add(x, c, 5, 0, NONE, toDouble);
    due(narrow, chooseForLambda(x, c, 5, 1, BOXED_INT));
    due(2, x.phase());
    due(1, x.special(narrow, broad));
    due(0, x.special(broad, narrow));
    due(narrow, chooseForLambda(x, c, 5, 1, INT));
    int toDoubleBox = functionFace(x, BOXED_DOUBLE, INT), toBool = functionFace(x, BOXED_BOOL, INT);
    add(x, c, 6, 0, NONE, toDoubleBox);
    add(x, c, 6, 0, NONE, toBool);
    due(MemberChoice.UNFIT, chooseForLambda(x, c, 6, 1, INT));
    int nothing = functionFace(x, NONE, INT), idle = add(x, c, 7, 0, NONE, nothing), idler = add(x, c, 7, 0, NONE, toNone);
    due(MemberChoice.AMBIGUOUS, chooseForLambda(x, c, 7, 1, NONE));
    due(1, x.special(idle, idler));
    due(1, x.special(idler, idle));
    due(MemberChoice.AMBIGUOUS, chooseForLambda(x, c, 7, 0, NONE));
    due(0, x.special(idle, idler));
    int other = add(x, c, 4, 0, NONE, fromLong);
    due(MemberChoice.UNFIT, chooseForLambda(x, c, 4, 1, INT));
    due(other, chooseForLambda(x, c, 4, 0, INT));
  }

  private static void lambdaAndInt(MemberChoice x, int result) {
    x.wipe();
    x.lambda(1, 1, INT, 0, result);
    x.argument(INT);
  }

  private static void chooseForShapes() {
    title = "promise 14, what could be meant";
    MemberChoice x = new MemberChoice();
    int f = functionFace(x, INT, INT), g = functionFace(x, NONE, INT), c = x.cls(8), sub = x.face();
    x.below(sub, f);
    int varied = add(x, c, 0, VARIED, NONE, INT, ARRAY + f);
    x.argument(INT);
    due(varied, x.choose(c, 0, NONE, 0));
    x.lambda(1, 0, 0, 0, BOOL);
    due(varied, x.choose(c, 0, NONE, 0));
    due(3, x.phase());
    x.lambda(1, 1, INT, 0, BOXED_INT);
    due(varied, x.choose(c, 0, NONE, 0));
    x.lambda(1, 1, INT, 0, OBJECT);
    due(MemberChoice.UNFIT, x.choose(c, 0, NONE, 0));
    x.lambda(0, 0, 0, 0, INT);
    due(MemberChoice.UNMEANT, x.choose(c, 0, NONE, 0));
    int object = add(x, c, 1, 0, NONE, OBJECT), none = add(x, c, 1, 0, NONE, g);
    due(MemberChoice.UNMEANT, chooseForLambda(x, c, 1, 0, INT));
    due(none, chooseForLambda(x, c, 1, 0, NONE));
    due(object, choose(x, c, 1, INT));
    add(x, c, 2, 0, NONE, f);
    int finest = add(x, c, 2, 0, NONE, sub);
    due(finest, chooseForLambda(x, c, 2, 0, INT));
    due(finest, chooseForLambda(x, c, 2, 1, INT));
    int twin = functionFace(x, INT, INT);
    int one = add(x, c, 3, 0, NONE, f), same = add(x, c, 3, 0, NONE, twin);
    due(MemberChoice.AMBIGUOUS, chooseForLambda(x, c, 3, 1, INT));
    due(1, x.special(one, same));
    due(1, x.special(same, one));
    due(MemberChoice.AMBIGUOUS, chooseForLambda(x, c, 3, 0, INT));
    due(0, x.special(one, same));
  }

  private static void later() {
    title = "promises 15, 16, 17";
    MemberChoice x = new MemberChoice();
    int f = x.face(), g = x.face(), c = x.cls(8);
    due(0, x.phase());
    int p = add(x, c, 0, 0, NONE, f), q = add(x, c, 0, 0, NONE, g);
    due(MemberChoice.AMBIGUOUS, choose(x, c, 0, NULL));
    due(0, x.special(p, q));
    x.below(f, g);
    x.wipe();
    add(x, c, 0, 0, NONE, OBJECT);
    due(0, x.special(p, q));
    due(NONE, x.applied(2));
    due(BAD, x.choose(c, 0, NONE, 2));
    due(1, x.phase());
    due(p, x.applied(0));
    due(q, x.applied(1));
    for (int i : new int[] {LEAST, -1, 2, 60, MOST}) due(NONE, x.applied(i));
    for (int m : new int[] {LEAST, -1, 2, 59, 60, 64, 65, MOST}) {
      due(NONE, x.special(m, p));
      due(NONE, x.special(p, m));
    }
    due(p, choose(x, c, 0, NULL));
    due(1, x.special(p, q));
    due(0, x.special(q, p));
    due(2, x.applied(2));
    due(MemberChoice.UNMEANT, choose(x, c, 0));
    due(0, x.phase());
    due(NONE, x.applied(0));
    due(NONE, x.special(p, p));
    choose(x, c, 0, NULL);
    due(MemberChoice.UNSEEN, choose(x, c, 1));
    due(0, x.phase());
    due(NONE, x.applied(0));
    due(NONE, x.special(p, p));
  }

  private static void count() {
    title = "promise 18";
    MemberChoice x = new MemberChoice();
    x.cls(8);
    x.face();
    x.face();
    add(x, 16, 0, 0, NONE);
    add(x, 16, 1, 0, NONE);
    x.argument(1);
    due(3, x.count(0));
    due(2, x.count(1));
    due(1, x.count(2));
    for (int what : new int[] {LEAST, -1, 3, MOST}) due(BAD, x.count(what));
  }

  private static void manyMembers() {
    title = "promises 14, 16, 17 with 60 MEMBERS";
    MemberChoice x = new MemberChoice();
    int last = 16;
    x.cls(8);
    for (int t = 17; t < 40; t++) last = x.cls(last);
    for (int k = 0; k < 60; k++) add(x, last, 0, 0, NONE, 16 + k % 24, k < 24 ? 8 : 16 + k / 24);
    due(60, x.count(1));
    due(47, choose(x, last, 0, last, 17));
    due(BAD, add(x, last, 0, 0, NONE, 1));
    due(47, choose(x, last, 0, NULL, 17));
    due(0, x.applied(0));
    due(47, x.applied(47));
    due(NONE, x.applied(48));
    due(MemberChoice.AMBIGUOUS, choose(x, last, 0, NULL, NULL));
    due(59, x.applied(59));
    due(NONE, x.applied(60));
    due(59, choose(x, last, 0, 16 + 11, NULL));
    due(59, x.applied(35));
    due(1, x.special(59, 0));
    due(0, x.special(0, 59));
  }

  public static void main(String[] args) {
    aNewObject();
    cls();
    face();
    below();
    member();
    is();
    fits();
    function();
    seen();
    argument();
    lambda();
    wipe();
    chooseByPhases();
    chooseSpecial();
    chooseWrongly();
    chooseForLambdas();
    chooseForShapes();
    later();
    count();
    manyMembers();
    System.out.println(passed + " answers as due, " + failed + " not");
    if (failed != 0) System.exit(1);
  }
}
