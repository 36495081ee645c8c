import java.util.ArrayList;
import java.util.List;

/** A state that a new object is brought to by calls, and calls whose answers tell all that can be known of it. */
final class State {
  /** Some calls in a row; fresh: they change the object, so they begin on a new one. */
  private record Group(boolean fresh, List<Call> calls) {}

  static final State NOTHING = nothing(), SOME = some(), FULL = full();

  private static final int NONE = -1;
  private static final int[] NAMES = {0, 1, 2, 3, 15};

  private final String title;
  private final List<Call> made = new ArrayList<>();
  private final List<Group> asked = new ArrayList<>();
  private int told = 0, members = 0;
  private List<Integer> usual = null;

  private State(String title) { this.title = title; }

  private static State nothing() { return new State("a new object"); }

  /** Two CLASSES, three INTERFACES, seven MEMBERS, two ARGUMENTS, and a choice made before those came. */
  private static State some() {
    State s = new State("an object with some of all");
    s.makeTypes(2, 3);
    s.make("below", 17, 18).make("below", 18, 19);
    s.makeMember(18, 0, 4, 1, 1, 1, 0).makeMember(19, 0, 4, 1, 1, 1, 0).makeMember(20, 1, 4, NONE, 0, 0, 0);
    s.makeMember(16, 2, 0, NONE, 1, 3, 0).makeMember(16, 2, 3, 1, 1, 2, 0).makeMember(17, 2, 8, 1, 2, 1, 65);
    s.makeMember(17, 2, 1, NONE, 2, 18, 5);
    s.make("argument", 1).make("choose", 17, 2, 16, 0).make("wipe");
    return s.make("lambda", 1, 1, 1, 0, 1).make("argument", 1);
  }

  /** 24 TYPES, a CLASS and an INTERFACE below four, 60 MEMBERS, 5 ARGUMENTS, and a choice among 47. */
  private static State full() {
    State s = new State("a full object");
    s.makeTypes(12, 12);
    for (int f = 28; f < 32; f++) s.make("below", 27, f);
    for (int f = 32; f < 36; f++) s.make("below", 28, f);
    s.make("below", 39, 38);
    for (int k = 0; k < 12; k++) s.makeMember(28 + k, 0, 4, k % 2 == 0 ? NONE : 1, 1, 1, 0);
    for (int k = 0; k < 47; k++) s.makeMember(27, 1, 0, NONE, 2, 16 + k % 12, 28 + k / 12);
    s.makeMember(27, 15, 8, 1, 2, 1, 65);
    s.make("argument", 27).make("argument", 27).make("choose", 27, 1, NONE, 0).make("wipe");
    for (int t : new int[] {1, 5, 1, 1, 5}) s.make("argument", t);
    return s;
  }

  private State make(String name, int... given) {
    made.add(new Call(name, given));
    return this;
  }

  private void makeTypes(int classes, int faces) {
    for (int k = 0; k < classes; k++) make("cls", k == 0 ? 8 : 15 + k);
    for (int k = 0; k < faces; k++) make("face");
    told = classes + faces;
  }

  private State makeMember(int type, int name, int marks, int result, int count, int p, int q) {
    members++;
    return make("member", type, name, marks, result, count, p, q, 0, 0);
  }

  Counted fresh() {
    Counted x = new Counted();
    for (Call c : made) {
      if (x.ask(c) == MemberChoice.BAD) throw new IllegalStateException(title + " cannot be made: " + c);
    }
    return x;
  }

  /** What differs between an object that has refused a call and one that never heard of it; an empty text: nothing. */
  String changedBy(Call refused) {
    prepare();
    if (usual == null) usual = answers(null);
    List<Integer> now = answers(refused);
    int place = 0;
    for (Group g : asked) {
      for (Call c : g.calls()) {
        if (!now.get(place).equals(usual.get(place))) {
          return title + ", behind " + refused + ": " + c + " answered " + now.get(place) + ", due is " + usual.get(place);
        }
        place++;
      }
    }
    return "";
  }

  // New objects begin at the same places with and without the refused call, so that the answers can be held side by side.
  private List<Integer> answers(Call refused) {
    List<Integer> all = new ArrayList<>();
    Counted x = null;
    int left = 0;
    for (Group g : asked) {
      if (g.fresh() || left < g.calls().size()) {
        x = fresh();
        left = Counted.MOST_CALLS - made.size() - 1;
        if (refused != null) x.ask(refused);
      }
      for (Call c : g.calls()) all.add(x.ask(c));
      left -= g.calls().size();
    }
    return all;
  }

  private void prepare() {
    if (!asked.isEmpty()) return;
    askOfTheLatestChoice();
    askOfTypes();
    askOfMembers();
    askForChoices();
    askForMoreTypes();
    askForMoreMembers();
    askForMoreArguments();
  }

  private void ask(String name, int... given) { asked.add(new Group(false, List.of(new Call(name, given)))); }

  private void askInARow(boolean fresh, Call... calls) { asked.add(new Group(fresh, List.of(calls))); }

  private void askOfTheLatestChoice() {
    ask("phase");
    for (int i = -1; i < members + 2; i++) ask("applied", i);
    for (int m = 0; m <= members; m++) {
      for (int o = 0; o <= members; o++) ask("special", m, o);
    }
  }

  private void askOfTypes() {
    for (int what = 0; what < 3; what++) ask("count", what);
    List<Integer> all = new ArrayList<>();
    for (int t = 0; t < 104; t++) {
      int element = t % 64;
      boolean plain = element < 10 || element >= 16 && element < 16 + told;
      if (plain || t == 10 || t == 16 + told) all.add(t);
    }
    for (int s : all) {
      ask("function", s);
      for (int t : all) {
        ask("is", s, t);
        ask("fits", s, t);
      }
    }
  }

  private void askOfMembers() {
    for (int type = 16; type <= 16 + told; type++) {
      for (int name : NAMES) {
        for (int from = 15; from <= 16 + told; from++) ask("seen", type, name, from == 15 ? NONE : from);
        for (int i = 0; i < 4; i++) {
          ask("seenAt", type, name, NONE, i);
          ask("seenAt", type, name, type, i);
        }
      }
    }
    for (int i = -1; i <= members; i++) ask("seenAt", 15 + told, 1, NONE, i);
  }

  private void askForChoices() {
    for (int type = 16; type <= 16 + told; type++) {
      for (int name : NAMES) {
        for (int fixed = 0; fixed < 2; fixed++) {
          askInARow(false, new Call("choose", type, name, NONE, fixed), new Call("phase"), new Call("applied", 0));
          askInARow(false, new Call("choose", type, name, type, fixed), new Call("phase"), new Call("applied", 1));
        }
      }
    }
  }

  private void askForMoreTypes() {
    askInARow(true, new Call("cls", 8), new Call("count", 0), new Call("is", 16 + told, 8), new Call("function", 16 + told));
    askInARow(true, new Call("face"), new Call("count", 0), new Call("is", 16 + told, 16), new Call("cls", 16 + told));
    for (int type = 16; type < 16 + told; type++) {
      List<Call> calls = new ArrayList<>();
      for (int face = 16; face < 16 + told; face++) calls.add(new Call("below", type, face));
      for (int t = 16; t < 16 + told; t++) calls.add(new Call("is", type, t));
      asked.add(new Group(true, calls));
    }
  }

  private void askForMoreMembers() {
    for (int type = 16; type < 16 + told; type++) {
      Call more = new Call("member", type, 3, 4, NONE, 1, 2, 0, 0, 0);
      Call twice = new Call("member", type, 2, 0, NONE, 1, 3, 0, 0, 0);
      askInARow(true, more, twice, more, new Call("count", 1), new Call("function", type), new Call("seen", type, 3, NONE));
    }
  }

  private void askForMoreArguments() {
    int type = told == 0 ? 16 : 17, name = 2;
    Call choice = new Call("choose", type, name, NONE, 0);
    for (int t : new int[] {1, 5, 8, 10, 65}) {
      askInARow(true, new Call("argument", t), choice, new Call("wipe"), new Call("argument", t), choice, new Call("count", 2));
      askInARow(true, new Call("lambda", 1, 1, 1, 0, t), choice, new Call("wipe"), new Call("count", 2));
    }
  }
}
