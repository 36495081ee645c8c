/** One test at least for each promise of the document, with answers read off its words by hand. */
public final class PromiseTests extends DocumentTest {
  public static void main(String[] args) throws Exception { runAll(PromiseTests.class); }

  static void promise01ANewObject() {
    Counted x = new Counted();
    for (int what = 0; what < 3; what++) due(0, x.count(what));
    due(0, x.phase());
    due(NONE, x.applied(0));
    due(NONE, x.special(0, 0));
    due(0, x.wipe());
    due(BAD, x.is(16, 16));
    x.face();
    Counted y = new Counted();
    due(0, y.count(0));
    due(16, y.cls(8));
  }

  static void promise02Cls() {
    Counted x = new Counted();
    int[] wrong = {LEAST, -1, 0, 7, 9, 10, 15, 16, 17, 40, 64, 72, 80, MOST};
    for (int parent : wrong) due(BAD, x.cls(parent));
    due(16, x.cls(8));
    due(17, x.cls(16));
    due(18, x.face());
    due(BAD, x.cls(18));
    due(BAD, x.cls(19));
    due(BAD, x.cls(80));
    due(1, x.is(17, 16));
    due(0, x.is(16, 17));
    for (int t = 19; t < 40; t++) due(t, x.cls(t == 30 ? 8 : 17));
    due(BAD, x.cls(8));
    due(BAD, x.cls(16));
    due(24, x.count(0));
    due(1, x.is(39, 16));
    due(0, x.is(30, 16));
  }

  static void promise03Face() {
    Counted x = new Counted();
    for (int t = 16; t < 40; t++) due(t, x.face());
    due(BAD, x.face());
    due(24, x.count(0));
    due(BAD, x.cls(20));
    due(1, x.is(39, OBJECT));
    due(0, x.is(39, 38));
  }

  static void promise04Below() {
    Counted x = new Counted();
    int c = x.cls(8), d = x.cls(c);
    int[] f = new int[6];
    for (int k = 0; k < 6; k++) f[k] = x.face();
    int[] wrong = {LEAST, -1, 0, 8, 10, 15, 24, 40, ARRAY + f[0], MOST};
    for (int t : wrong) due(BAD, x.below(t, f[0]));
    for (int t : wrong) due(BAD, x.below(c, t));
    due(BAD, x.below(f[0], c));
    due(BAD, x.below(d, c));
    due(BAD, x.below(f[0], f[0]));
    due(1, x.below(f[0], f[1]));
    due(BAD, x.below(f[0], f[1]));
    due(BAD, x.below(f[1], f[0]));
    due(1, x.below(f[1], f[2]));
    due(BAD, x.below(f[2], f[0]));
    due(1, x.below(c, f[0]));
    due(1, x.is(d, f[2]));
    due(2, x.below(c, f[2]));
    due(1, x.below(d, f[0]));
    due(3, x.below(c, f[3]));
    due(4, x.below(c, f[4]));
    due(BAD, x.below(c, f[5]));
    due(0, x.is(c, f[5]));
    due(1, x.is(d, f[4]));
    due(2, x.below(f[0], f[5]));
    due(1, x.is(d, f[5]));
    due(BAD, x.below(f[5], f[0]));
  }

  static void promise05Member() {
    Counted x = new Counted();
    int c = x.cls(8), f = x.face();
    due(BAD, x.add(15, 0, 0, NONE));
    due(BAD, x.add(18, 0, 0, NONE));
    due(BAD, x.add(OBJECT, 0, 0, NONE));
    due(BAD, x.add(ARRAY + c, 0, 0, NONE));
    due(BAD, x.add(c, -1, 0, NONE));
    due(BAD, x.add(c, 16, 0, NONE));
    due(BAD, x.add(c, 0, -1, NONE));
    due(BAD, x.add(c, 0, 16, NONE));
    due(BAD, x.add(c, 0, ABSTRACT | STATIC, NONE));
    due(BAD, x.add(f, 0, ABSTRACT | STATIC, NONE));
    due(BAD, x.add(f, 0, ABSTRACT | PRIVATE, NONE));
    due(BAD, x.add(c, 0, 0, NULL));
    due(BAD, x.add(c, 0, 0, -2));
    due(BAD, x.add(c, 0, 0, 18));
    due(BAD, x.add(c, 0, 0, ARRAY + NULL));
    due(BAD, x.member(c, 0, 0, NONE, -1, 1, 1, 1, 1));
    due(BAD, x.member(c, 0, 0, NONE, 5, 1, 1, 1, 1));
    due(BAD, x.member(c, 0, 0, NONE, LEAST, 1, 1, 1, 1));
    due(BAD, x.member(c, 0, 0, NONE, MOST, 1, 1, 1, 1));
    due(BAD, x.add(c, 0, 0, NONE, NULL));
    due(BAD, x.add(c, 0, 0, NONE, INT, INT, INT, NONE));
    due(BAD, x.add(c, 0, 0, NONE, INT, ARRAY + ARRAY));
    due(BAD, x.add(c, 0, VARIED, NONE));
    due(BAD, x.add(c, 0, VARIED, NONE, ARRAY + INT, INT));
    due(0, x.count(1));
    due(0, x.seen(c, 0, c));
    due(BAD, x.add(f, 0, ABSTRACT | VARIED, NONE, INT));
    due(NONE, x.function(f));
    due(BAD, x.add(f, 0, ABSTRACT | STATIC, NONE));
    due(0, x.seen(f, 0, NONE));
    due(0, x.add(c, 0, ABSTRACT | PRIVATE, NONE));
    due(1, x.add(f, 0, STATIC | PRIVATE, NONE));
    due(2, x.add(c, 15, VARIED, ARRAY + f, INT, ARRAY + INT));
    due(BAD, x.add(c, 15, 0, NONE, INT, ARRAY + INT));
    due(BAD, x.member(c, 0, STATIC, INT, 0, 5, 5, 5, 5));
    due(3, x.add(c, 15, 0, NONE, INT, ARRAY + LONG));
    due(4, x.add(f, 15, 0, NONE, INT, ARRAY + INT));
    due(5, x.add(c, 14, 0, NONE, INT, ARRAY + INT));
    due(6, x.add(c, 15, 0, NONE, INT));
    due(7, x.add(c, 0, 0, NONE, INT, INT, INT, INT));
    due(8, x.add(c, 0, 0, NONE, INT, INT, INT, LONG));
    int number = 9;
    for (int p = 0; p < 10; p++) {
      for (int q = 0; q < 10 && number < 60; q++) due(number++, x.add(f, 3, 0, NONE, p, q));
    }
    due(BAD, x.add(f, 4, 0, NONE));
    due(60, x.count(1));
    due(51, x.seen(f, 3, NONE));
  }

  static void promise06Is() {
    int[] all = {0, 1, 2, 3, 4, 5, 6, 7, 8, 9, 10, 16, 17, 18, 64, 65, 66, 69, 70, 72, 73, 80, 81, 82};
    String[] above = {"0", "1 2 3", "2 3", "3", "4 8", "5 8 9", "6 8 9", "7 8 9", "8", "9 8",
      "4 5 6 7 8 9 10 16 17 18 64 65 66 69 70 72 73 80 81 82", "16 17 18 8", "17 18 8", "18 8", "64 8", "65 8", "66 8",
      "69 72 73 8", "70 72 73 8", "72 8", "73 72 8", "80 81 82 72 8", "81 82 72 8", "82 72 8"};
    for (int i = 0; i < all.length; i++) {
      Counted x = aClassBelowTwoFaces();
      for (int t : all) due((" " + above[i] + " ").contains(" " + t + " ") ? 1 : 0, x.is(all[i], t));
    }
    int[] wrong = {LEAST, -1, 11, 15, 19, 39, 40, 63, 74, 79, 83, 103, 104, 128, MOST};
    for (int t : wrong) {
      Counted x = aClassBelowTwoFaces();
      due(BAD, x.is(t, 1));
      due(BAD, x.is(1, t));
      due(BAD, x.is(t, t));
    }
  }

  private static Counted aClassBelowTwoFaces() {
    Counted x = new Counted();
    int c = x.cls(8), f = x.face(), g = x.face();
    x.below(c, f);
    x.below(f, g);
    return x;
  }

  static void promise07Fits() {
    Counted x = new Counted();
    int c = x.cls(8), f = x.face();
    x.below(c, f);
    int[] all = {0, 1, 2, 3, 4, 5, 6, 7, 8, 9, 10, c, f, 65, 69, 72, 80};
    String[] fit = {"0 4 8", "1 2 3 5 8 9", "2 3 6 8 9", "3 7 8 9", "4 8 0", "5 8 9 1 2 3", "6 8 9 2 3", "7 8 9 3", "8",
      "9 8", "4 5 6 7 8 9 10 16 17 65 69 72 80", "16 17 8", "17 8", "65 8", "69 72 8", "72 8", "80 72 8"};
    for (int i = 0; i < all.length; i++) {
      for (int t : all) due((" " + fit[i] + " ").contains(" " + t + " ") ? 1 : 0, x.fits(all[i], t));
    }
    int[] wrong = {LEAST, -1, 11, 15, 18, 40, 63, 74, 82, 128, MOST};
    for (int t : wrong) {
      due(BAD, x.fits(t, 8));
      due(BAD, x.fits(8, t));
    }
  }

  static void promise08Function() {
    Counted x = new Counted();
    int f = x.face(), g = x.face(), h = x.face(), c = x.cls(8);
    due(NONE, x.function(f));
    due(0, x.add(g, 1, ABSTRACT, INT, LONG));
    due(NONE, x.function(f));
    due(0, x.function(g));
    due(1, x.add(f, 1, ABSTRACT, LONG, LONG));
    due(1, x.function(f));
    x.below(h, f);
    due(1, x.function(h));
    x.below(h, g);
    due(0, x.function(h));
    due(2, x.add(h, 2, 0, NONE, INT));
    due(0, x.function(h));
    due(3, x.add(h, 1, ABSTRACT, NONE, LONG));
    due(3, x.function(h));
    due(1, x.function(f));
    due(4, x.add(h, 1, ABSTRACT, NONE, INT));
    due(NONE, x.function(h));
    int i = x.face();
    due(NONE, x.function(i));
    x.below(i, f);
    due(5, x.add(i, 1, 0, LONG, LONG));
    due(NONE, x.function(i));
    int j = x.face();
    x.below(j, i);
    due(6, x.add(j, 3, ABSTRACT, LONG, LONG));
    due(6, x.function(j));
    due(7, x.add(f, 4, ABSTRACT, LONG, LONG));
    due(NONE, x.function(j));
    due(NONE, x.function(f));
    due(8, x.add(c, 4, ABSTRACT, LONG, LONG));
    int[] none = {0, 7, 8, 9, 10, c, ARRAY + g, 64};
    for (int t : none) due(NONE, x.function(t));
    int[] wrong = {LEAST, -1, 11, 15, 22, 40, 74, 128, MOST};
    for (int t : wrong) due(BAD, x.function(t));
  }

  static void promise09And10Seen() {
    Counted x = new Counted();
    int a = x.cls(8), b = x.cls(a), c = x.cls(b), f = x.face(), g = x.face();
    x.below(b, f);
    x.below(c, g);
    x.below(f, g);
    x.add(g, 0, ABSTRACT, NONE, INT);
    x.add(a, 0, 0, NONE, INT);
    x.add(b, 0, STATIC, NONE, INT);
    x.add(c, 0, PRIVATE, NONE, INT);
    x.add(f, 0, 0, NONE, INT);
    x.add(a, 0, PRIVATE, NONE, LONG);
    x.add(b, 0, 0, NONE, LONG);
    x.add(c, 0, 0, NONE, LONG);
    x.add(c, 0, 0, NONE, LONG, LONG);
    x.add(c, 1, 0, NONE, LONG);
    seenIs(x, g, 0, NONE, 0);
    seenIs(x, f, 0, NONE, 4);
    seenIs(x, a, 0, NONE, 1);
    seenIs(x, a, 0, b, 1);
    seenIs(x, a, 0, a, 1, 5);
    seenIs(x, b, 0, NONE, 1, 2, 4, 6);
    seenIs(x, c, 0, NONE, 1, 2, 4, 7, 8);
    seenIs(x, c, 0, a, 1, 2, 4, 5, 7, 8);
    seenIs(x, c, 0, c, 1, 2, 3, 4, 7, 8);
    seenIs(x, c, 0, g, 1, 2, 4, 7, 8);
    seenIs(x, c, 1, NONE, 9);
    seenIs(x, c, 15, NONE);
    due(BAD, x.add(b, 0, 0, NULL, INT));
    seenIs(x, b, 0, NONE, 1, 2, 4, 6);
    int[] wrong = {LEAST, -2, 0, 8, 10, 15, 21, 40, ARRAY + c, MOST};
    for (int t : wrong) {
      due(BAD, x.seen(t, 0, NONE));
      due(BAD, x.seen(c, 0, t));
      due(BAD, x.seenAt(t, 0, NONE, 0));
      due(BAD, x.seenAt(c, 0, t, 0));
    }
    due(BAD, x.seen(NONE, 0, NONE));
    for (int name : new int[] {LEAST, -1, 16, MOST}) {
      due(BAD, x.seen(c, name, NONE));
      due(BAD, x.seenAt(c, name, NONE, 0));
      due(BAD, x.seenAt(c, name, NONE, -1));
    }
  }

  private static void seenIs(Counted x, int type, int name, int from, int... want) {
    due(want.length, x.seen(type, name, from));
    for (int i = 0; i < want.length; i++) due(want[i], x.seenAt(type, name, from, i));
    for (int i : new int[] {LEAST, -1, want.length, 59, 60, 61, MOST}) due(NONE, x.seenAt(type, name, from, i));
  }

  static void promise11Argument() {
    Counted x = new Counted();
    for (int t : new int[] {LEAST, -1, 11, 15, 16, 40, 63, 74, 80, 128, MOST}) due(BAD, x.argument(t));
    due(0, x.count(2));
    int c = x.cls(8);
    due(1, x.argument(NULL));
    due(2, x.argument(c));
    due(3, x.argument(ARRAY + c));
    due(4, x.argument(BOOL));
    due(5, x.argument(OBJECT));
    due(BAD, x.argument(OBJECT));
    due(BAD, x.lambda(0, 0, 0, 0, NONE));
    due(5, x.count(2));
  }

  static void promise12Lambda() {
    Counted x = new Counted();
    int c = x.cls(8);
    for (int n : new int[] {LEAST, -1, 3, MOST}) due(BAD, x.lambda(n, 0, 1, 1, 1));
    for (int told : new int[] {LEAST, -1, 2, MOST}) due(BAD, x.lambda(0, told, 1, 1, 1));
    for (int t : new int[] {LEAST, -1, NULL, 11, 17, 74, 128, MOST}) {
      due(BAD, x.lambda(1, 1, t, 1, 1));
      due(BAD, x.lambda(2, 1, t, 1, 1));
      due(BAD, x.lambda(2, 1, 1, t, 1));
    }
    for (int t : new int[] {LEAST, -2, NULL, 11, 17, 74, 128, MOST}) {
      due(BAD, x.lambda(0, 0, 1, 1, t));
      due(BAD, x.lambda(1, 1, 1, 1, t));
    }
    due(0, x.count(2));
    due(1, x.lambda(2, 0, NULL, MOST, NONE));
    due(2, x.lambda(0, 1, NULL, NONE, ARRAY + c));
    due(3, x.lambda(1, 1, ARRAY + c, MOST, c));
    due(4, x.lambda(2, 1, BOOL, OBJECT, NONE));
    due(5, x.lambda(0, 0, 0, 0, 0));
    due(BAD, x.lambda(0, 0, 0, 0, 0));
    due(BAD, x.argument(1));
    due(5, x.wipe());
  }

  static void promise13Wipe() {
    Counted x = new Counted();
    int c = x.cls(8), f = x.addFunction(NONE);
    x.add(c, 0, 0, NONE, INT);
    x.add(c, 0, 0, NONE, f);
    due(0, x.wipe());
    x.lambda(0, 1, 0, 0, NONE);
    due(2, x.choose(c, 0, NONE, 0));
    due(1, x.wipe());
    due(0, x.wipe());
    due(1, x.argument(INT));
    due(1, x.choose(c, 0, NONE, 0));
    due(2, x.argument(INT));
    due(2, x.wipe());
    due(0, x.count(2));
    due(UNMEANT, x.choose(c, 0, NONE, 0));
    due(3, x.count(1));
  }

  static void promise14ByPhases() {
    Counted x = new Counted();
    int c = x.cls(8);
    due(UNSEEN, x.chooseFor(c, 0));
    int exact = x.add(c, 0, 0, NONE, LONG);
    int boxed = x.add(c, 0, 0, NONE, BOXED_INT);
    int varied = x.add(c, 0, VARIED, NONE, ARRAY + INT);
    due(UNSEEN, x.chooseFor(c, 1));
    due(exact, x.chooseFor(c, 0, INT));
    due(1, x.phase());
    due(boxed, x.chooseFor(c, 0, BOXED_INT));
    due(UNFIT, x.chooseFor(c, 0, BOOL));
    due(0, x.phase());
    due(exact, x.chooseFor(c, 0, BOXED_LONG));
    due(2, x.phase());
    due(varied, x.chooseFor(c, 0));
    due(3, x.phase());
    due(varied, x.chooseFor(c, 0, INT, BOXED_INT, INT, INT, BOXED_INT));
    due(UNFIT, x.chooseFor(c, 0, INT, LONG));
    due(varied, x.chooseFor(c, 0, ARRAY + INT));
    due(1, x.phase());
    due(AMBIGUOUS, x.chooseFor(c, 0, NULL));
    int bools = x.add(c, 4, VARIED, NONE, ARRAY + BOOL);
    due(bools, x.chooseFor(c, 4, BOXED_BOOL, BOOL));
    due(bools, x.chooseFor(c, 4, ARRAY + BOOL));
    due(UNFIT, x.chooseFor(c, 4, ARRAY + BOXED_BOOL));
    int wide = x.add(c, 2, VARIED, NONE, LONG, INT, ARRAY + OBJECT);
    due(UNMEANT, x.chooseFor(c, 2, INT));
    due(wide, x.chooseFor(c, 2, INT, INT));
    due(3, x.phase());
    due(wide, x.chooseFor(c, 2, INT, INT, NULL));
    due(1, x.phase());
    due(wide, x.chooseFor(c, 2, INT, INT, ARRAY + BOXED_INT));
    due(1, x.phase());
    due(wide, x.chooseFor(c, 2, INT, INT, ARRAY + INT));
    due(3, x.phase());
    due(wide, x.chooseFor(c, 2, INT, INT, INT));
    due(wide, x.chooseFor(c, 2, INT, INT, INT, NULL, c));
    due(UNFIT, x.chooseFor(c, 2, INT, LONG, INT));
    int four = x.add(c, 3, 0, NONE, INT, INT, INT, INT);
    due(four, x.chooseFor(c, 3, INT, INT, INT, INT));
    due(UNMEANT, x.chooseFor(c, 3, INT, INT, INT));
    due(UNMEANT, x.chooseFor(c, 3, INT, INT, INT, INT, INT));
  }

  static void promise14TheMostSpecialOne() {
    Counted x = new Counted();
    int c = x.cls(8), d = x.cls(c);
    x.add(c, 0, 0, NONE, OBJECT, INT);
    int better = x.add(c, 0, 0, NONE, NUMBER, INT);
    due(better, x.chooseFor(c, 0, BOXED_INT, INT));
    x.add(c, 0, 0, NONE, OBJECT, LONG);
    due(better, x.chooseFor(c, 0, BOXED_INT, INT));
    x.add(c, 0, 0, NONE, BOXED_INT, LONG);
    due(AMBIGUOUS, x.chooseFor(c, 0, BOXED_INT, INT));
    int varied = x.add(c, 1, VARIED, NONE, ARRAY + INT);
    int longs = x.add(c, 1, VARIED, NONE, ARRAY + LONG);
    due(varied, x.chooseFor(c, 1, INT));
    due(varied, x.chooseFor(c, 1));
    due(longs, x.chooseFor(c, 1, LONG));
    due(1, x.special(longs, longs));
    int more = x.add(c, 1, VARIED, NONE, INT, ARRAY + INT);
    due(AMBIGUOUS, x.chooseFor(c, 1, INT));
    due(varied, x.chooseFor(c, 1));
    due(1, x.special(varied, longs));
    due(0, x.special(longs, varied));
    due(NONE, x.special(more, varied));
    int objects = x.add(c, 2, VARIED, NONE, INT, ARRAY + OBJECT);
    int ints = x.add(c, 2, VARIED, NONE, ARRAY + INT);
    due(AMBIGUOUS, x.chooseFor(c, 2, INT));
    due(0, x.special(objects, ints));
    due(0, x.special(ints, objects));
    int abstractOne = x.add(d, 3, ABSTRACT, NONE, INT);
    int staticOne = x.add(c, 3, STATIC, NONE, INT);
    due(staticOne, x.chooseFor(d, 3, INT));
    due(1, x.special(abstractOne, staticOne));
    due(staticOne, x.choose(d, 3, NONE, 1));
    int f = x.face();
    x.below(d, f);
    x.add(f, 3, STATIC, NONE, INT);
    due(AMBIGUOUS, x.chooseFor(d, 3, INT));
    int g = x.face(), h = x.face(), i = x.cls(8);
    x.below(i, h);
    x.below(i, g);
    int first = x.add(h, 4, ABSTRACT, INT, INT);
    x.add(g, 4, ABSTRACT, LONG, INT);
    due(first, x.chooseFor(i, 4, INT));
    due(INSTANCE, x.choose(i, 4, NONE, 1));
    x.add(g, 4, ABSTRACT, LONG, BOXED_INT);
    due(first, x.chooseFor(i, 4, INT));
  }

  static void promise14WrongInputsAndStaticPlaces() {
    Counted x = new Counted();
    int c = x.cls(8);
    int plain = x.add(c, 0, 0, NONE);
    int fixed = x.add(c, 1, STATIC, NONE);
    int secret = x.add(c, 2, PRIVATE | STATIC, NONE);
    due(plain, x.choose(c, 0, NONE, 0));
    due(INSTANCE, x.choose(c, 0, NONE, 1));
    due(1, x.phase());
    due(plain, x.applied(0));
    due(fixed, x.choose(c, 1, NONE, 1));
    due(fixed, x.choose(c, 1, NONE, 0));
    due(UNSEEN, x.choose(c, 2, NONE, 1));
    due(secret, x.choose(c, 2, c, 1));
    for (int t : new int[] {LEAST, -2, 0, 8, 17, 40, ARRAY + c, MOST}) {
      due(BAD, x.choose(t, 1, NONE, 0));
      due(BAD, x.choose(c, 1, t, 0));
    }
    due(BAD, x.choose(NONE, 1, NONE, 0));
    for (int name : new int[] {LEAST, -1, 16, MOST}) due(BAD, x.choose(c, name, NONE, 0));
    for (int place : new int[] {LEAST, -1, 2, MOST}) due(BAD, x.choose(c, 1, NONE, place));
    due(1, x.phase());
    due(secret, x.applied(0));
    due(1, x.special(secret, secret));
  }

  static void promise14Lambdas() {
    Counted x = new Counted();
    int toInt = x.addFunction(INT, INT), toBox = x.addFunction(BOXED_INT, INT), toNone = x.addFunction(NONE, INT);
    int fromLong = x.addFunction(INT, LONG), toLong = x.addFunction(LONG, INT), toNumber = x.addFunction(NUMBER, INT);
    int c = x.cls(8);
    int a = x.add(c, 0, 0, NONE, toInt), b = x.add(c, 0, 0, NONE, toBox), n = x.add(c, 0, 0, NONE, toNone);
    due(a, x.chooseForLambda(c, 0, 1, 1, INT));
    due(NONE, x.special(a, b));
    due(b, x.chooseForLambda(c, 0, 1, 1, BOXED_INT));
    due(n, x.chooseForLambda(c, 0, 1, 1, NONE));
    due(AMBIGUOUS, x.chooseForLambda(c, 0, 1, 0, INT));
    due(0, x.special(a, b));
    due(1, x.special(b, b));
    due(n, x.chooseForLambda(c, 0, 1, 0, NONE));
    due(UNFIT, x.chooseForLambda(c, 0, 1, 1, OBJECT));
    int l = x.add(c, 1, 0, NONE, toLong), m = x.add(c, 1, 0, NONE, toNumber);
    due(l, x.chooseForLambda(c, 1, 1, 1, INT));
    due(m, x.chooseForLambda(c, 1, 1, 1, BOXED_INT));
    int pairA = x.add(c, 2, 0, NONE, toInt, toNone), pairB = x.add(c, 2, 0, NONE, toNumber, toNone);
    x.wipe();
    x.lambda(1, 1, INT, 0, BOXED_INT);
    x.lambda(1, 0, 0, 0, NONE);
    due(pairB, x.choose(c, 2, NONE, 0));
    due(1, x.phase());
    due(NONE, x.special(pairA, pairB));
    int boxA = x.add(c, 3, 0, NONE, toInt, BOXED_INT), boxB = x.add(c, 3, 0, NONE, toNumber, BOXED_INT);
    lambdaAndInt(x, BOXED_INT);
    due(boxB, x.choose(c, 3, NONE, 0));
    due(2, x.phase());
    due(0, x.special(boxA, boxB));
    due(1, x.special(boxB, boxA));
    lambdaAndInt(x, INT);
    due(boxA, x.choose(c, 3, NONE, 0));
    due(1, x.special(boxA, boxB));
    due(0, x.special(boxB, boxA));
    x.add(c, 3, 0, NONE, toLong, BOXED_INT);
    due(boxA, x.choose(c, 3, NONE, 0));
    int toDouble = x.addFunction(DOUBLE, INT);
    int narrow = x.add(c, 5, 0, NONE, toInt), broad = x.add(c, 5, 0, NONE, toDouble);
    due(narrow, x.chooseForLambda(c, 5, 1, 1, BOXED_INT));
    due(2, x.phase());
    due(1, x.special(narrow, broad));
    due(0, x.special(broad, narrow));
    due(narrow, x.chooseForLambda(c, 5, 1, 1, INT));
    int toDoubleBox = x.addFunction(BOXED_DOUBLE, INT), toBool = x.addFunction(BOXED_BOOL, INT);
    x.add(c, 6, 0, NONE, toDoubleBox);
    x.add(c, 6, 0, NONE, toBool);
    due(UNFIT, x.chooseForLambda(c, 6, 1, 1, INT));
    int nothing = x.addFunction(NONE, INT), idle = x.add(c, 7, 0, NONE, nothing), idler = x.add(c, 7, 0, NONE, toNone);
    due(AMBIGUOUS, x.chooseForLambda(c, 7, 1, 1, NONE));
    due(1, x.special(idle, idler));
    due(1, x.special(idler, idle));
    due(AMBIGUOUS, x.chooseForLambda(c, 7, 1, 0, NONE));
    due(0, x.special(idle, idler));
    int other = x.add(c, 4, 0, NONE, fromLong);
    due(UNFIT, x.chooseForLambda(c, 4, 1, 1, INT));
    due(other, x.chooseForLambda(c, 4, 1, 0, INT));
  }

  private static void lambdaAndInt(Counted x, int result) {
    x.wipe();
    x.lambda(1, 1, INT, 0, result);
    x.argument(INT);
  }

  static void promise14WhatCouldBeMeant() {
    Counted x = new Counted();
    int f = x.addFunction(INT, INT), g = x.addFunction(NONE, INT), c = x.cls(8), sub = x.face();
    x.below(sub, f);
    int varied = x.add(c, 0, VARIED, NONE, INT, ARRAY + f);
    x.argument(INT);
    due(varied, x.choose(c, 0, NONE, 0));
    x.lambda(1, 0, 0, 0, BOOL);
    due(varied, x.choose(c, 0, NONE, 0));
    due(3, x.phase());
    x.lambda(1, 1, INT, 0, BOXED_INT);
    due(varied, x.choose(c, 0, NONE, 0));
    x.lambda(1, 1, INT, 0, OBJECT);
    due(UNFIT, x.choose(c, 0, NONE, 0));
    x.lambda(0, 0, 0, 0, INT);
    due(UNMEANT, x.choose(c, 0, NONE, 0));
    int object = x.add(c, 1, 0, NONE, OBJECT), none = x.add(c, 1, 0, NONE, g);
    due(UNMEANT, x.chooseForLambda(c, 1, 1, 0, INT));
    due(none, x.chooseForLambda(c, 1, 1, 0, NONE));
    due(object, x.chooseFor(c, 1, INT));
    x.add(c, 2, 0, NONE, f);
    int finest = x.add(c, 2, 0, NONE, sub);
    due(finest, x.chooseForLambda(c, 2, 1, 0, INT));
    due(finest, x.chooseForLambda(c, 2, 1, 1, INT));
    int twin = x.addFunction(INT, INT);
    int one = x.add(c, 3, 0, NONE, f), same = x.add(c, 3, 0, NONE, twin);
    due(AMBIGUOUS, x.chooseForLambda(c, 3, 1, 1, INT));
    due(1, x.special(one, same));
    due(1, x.special(same, one));
    due(AMBIGUOUS, x.chooseForLambda(c, 3, 1, 0, INT));
    due(0, x.special(one, same));
  }

  static void promise15To17TheLatestChoice() {
    Counted x = new Counted();
    int f = x.face(), g = x.face(), c = x.cls(8);
    due(0, x.phase());
    int p = x.add(c, 0, 0, NONE, f), q = x.add(c, 0, 0, NONE, g);
    due(AMBIGUOUS, x.chooseFor(c, 0, NULL));
    due(0, x.special(p, q));
    x.below(f, g);
    x.wipe();
    x.add(c, 0, 0, NONE, OBJECT);
    due(0, x.special(p, q));
    due(NONE, x.applied(2));
    due(BAD, x.choose(c, 0, NONE, 2));
    due(1, x.phase());
    due(p, x.applied(0));
    due(q, x.applied(1));
    for (int i : new int[] {LEAST, -1, 2, 60, MOST}) due(NONE, x.applied(i));
    for (int m : new int[] {LEAST, -1, 2, 59, 60, 64, 65, MOST}) {
      due(NONE, x.special(m, p));
      due(NONE, x.special(p, m));
    }
    due(p, x.chooseFor(c, 0, NULL));
    due(1, x.special(p, q));
    due(0, x.special(q, p));
    due(2, x.applied(2));
    due(UNMEANT, x.chooseFor(c, 0));
    due(0, x.phase());
    due(NONE, x.applied(0));
    due(NONE, x.special(p, p));
    x.chooseFor(c, 0, NULL);
    due(UNSEEN, x.chooseFor(c, 1));
    due(0, x.phase());
    due(NONE, x.applied(0));
    due(NONE, x.special(p, p));
  }

  static void promise18Count() {
    Counted x = new Counted();
    x.cls(8);
    x.face();
    x.face();
    x.add(16, 0, 0, NONE);
    x.add(16, 1, 0, NONE);
    x.argument(1);
    due(3, x.count(0));
    due(2, x.count(1));
    due(1, x.count(2));
    for (int what : new int[] {LEAST, -1, 3, MOST}) due(BAD, x.count(what));
  }

  static void promise14SixtyMembers() {
    Counted x = new Counted();
    int last = 16;
    x.cls(8);
    for (int t = 17; t < 40; t++) last = x.cls(last);
    for (int k = 0; k < 60; k++) x.add(last, 0, 0, NONE, 16 + k % 24, k < 24 ? 8 : 16 + k / 24);
    due(60, x.count(1));
    due(47, x.chooseFor(last, 0, last, 17));
    due(BAD, x.add(last, 0, 0, NONE, 1));
    due(47, x.chooseFor(last, 0, NULL, 17));
    due(0, x.applied(0));
    due(47, x.applied(47));
    due(NONE, x.applied(48));
    due(AMBIGUOUS, x.chooseFor(last, 0, NULL, NULL));
    due(59, x.applied(59));
    due(NONE, x.applied(60));
    due(59, x.chooseFor(last, 0, 16 + 11, NULL));
    due(59, x.applied(35));
    due(1, x.special(59, 0));
    due(0, x.special(0, 59));
  }
}
