import java.util.Arrays;

/**
 * Members chosen for calls as a well-known language does. The words in capitals are those of the document.
 */
public final class MemberChoice {
    public static final int NONE = -1, BAD = -2;
    public static final int UNSEEN = -3, UNMEANT = -4, UNFIT = -5, AMBIGUOUS = -6, INSTANCE = -7;

    private final Types types;
    private final Members members;
    private final Arguments arguments;
    private final Choice latest;
    private final int[] seenRow;

    public MemberChoice() {
        types = new Types();
        members = new Members(types);
        arguments = new Arguments();
        latest = new Choice(types, members, arguments);
        seenRow = new int[Members.MOST];
    }

    public int cls(int parent) {
        boolean good = parent == Types.OBJECT || types.isTold(parent) && !types.isInterface(parent);
        return good ? types.add(parent, false) : BAD;
    }

    public int face() {
        return types.add(Types.OBJECT, true);
    }

    public int below(int type, int face) {
        int told = types.putBelow(type, face);
        if (told != BAD) {
            members.forgetFunctions();
        }
        return told;
    }

    public int member(int type, int name, int marks, int result, int count, int p, int q, int r, int s) {
        members.draftHead(type, name, marks, result);
        members.draftParameters(count, p, q, r, s);
        return members.keepDraft();
    }

    public int is(int s, int t) {
        if (!types.isType(s) || !types.isType(t)) {
            return BAD;
        }
        return types.accepts(s, t, false) ? 1 : 0;
    }

    public int fits(int s, int t) {
        if (!types.isType(s) || !types.isType(t)) {
            return BAD;
        }
        return types.accepts(s, t, true) ? 1 : 0;
    }

    public int function(int type) {
        if (!types.isType(type)) {
            return BAD;
        }
        members.settleFunctions();
        return members.functionOf(type);
    }

    public int seen(int type, int name, int from) {
        return canBeAsked(type, name, from) ? members.listSeen(type, name, from, seenRow) : BAD;
    }

    public int seenAt(int type, int name, int from, int i) {
        if (!canBeAsked(type, name, from)) {
            return BAD;
        }
        int found = members.listSeen(type, name, from, seenRow);
        return i >= 0 && i < found ? seenRow[i] : NONE;
    }

    public int argument(int type) {
        return types.isType(type) ? arguments.addType(type) : BAD;
    }

    public int lambda(int n, int told, int p, int q, int result) {
        if (n < 0 || n > Arguments.MOST_PARAMETERS || told < 0 || told > 1 || !types.canBeResult(result)) {
            return BAD;
        }
        boolean badFirst = n > 0 && !types.canBeDeclared(p);
        boolean badSecond = n > 1 && !types.canBeDeclared(q);
        if (told == 1 && (badFirst || badSecond)) {
            return BAD;
        }
        return arguments.addLambda(n, told == 1, p, q, result);
    }

    public int wipe() {
        return arguments.clear();
    }

    public int choose(int type, int name, int from, int fixed) {
        if (!canBeAsked(type, name, from) || fixed < 0 || fixed > 1) {
            return BAD;
        }
        int chosen = latest.decide(type, name, from);
        return chosen >= 0 && fixed == 1 && !members.isStatic(chosen) ? INSTANCE : chosen;
    }

    public int phase() {
        return latest.phaseReached();
    }

    public int applied(int i) {
        return latest.applyingAt(i);
    }

    public int special(int m, int o) {
        return latest.compared(m, o);
    }

    public int count(int what) {
        switch (what) {
            case 0:
                return types.size();
            case 1:
                return members.size();
            case 2:
                return arguments.size();
            default:
                return BAD;
        }
    }

    private boolean canBeAsked(int type, int name, int from) {
        return types.isTold(type) && name >= 0 && name < Members.NAMES && (from == NONE || types.isTold(from));
    }

    /** The TYPES: which there are, and which IS or FITS which. */
    private static final class Types {
        static final int OBJECT = 8, FIRST_TOLD = 16, MOST_TOLD = 24;

        private static final int DOUBLE = 3, FIRST_BOX = 4, LAST_BOX = 7, NUMBER = 9, NULLS = 10;
        private static final int PLAIN = FIRST_TOLD + MOST_TOLD, ARRAY = 64, MOST_FACES = 4;

        // Bit t of row s: s IS t, for the TYPES 0 .. 10. Null's row names the told ones too, before they come.
        private static final long[] FIXED_ABOVE = {
            0b000_0000_0001L, 0b000_0000_1110L, 0b000_0000_1100L, 0b000_0000_1000L,
            0b001_0001_0000L, 0b011_0010_0000L, 0b011_0100_0000L, 0b011_1000_0000L,
            0b001_0000_0000L, 0b011_0000_0000L, 0xFF_FFFF_07F0L
        };

        // Kept closed at each change, so that asking whether one IS another needs no walk.
        private final long[] above;
        private final int[] toldFaces;
        private final boolean[] interfaces;
        private int told;

        Types() {
            above = Arrays.copyOf(FIXED_ABOVE, PLAIN);
            toldFaces = new int[MOST_TOLD];
            interfaces = new boolean[MOST_TOLD];
        }

        int size() {
            return told;
        }

        boolean isTold(int t) {
            return t >= FIRST_TOLD && t < FIRST_TOLD + told;
        }

        boolean isInterface(int t) {
            return isTold(t) && interfaces[t - FIRST_TOLD];
        }

        boolean isArray(int t) {
            return t >= ARRAY && isElement(t - ARRAY);
        }

        boolean isType(int t) {
            return isElement(t) || t == NULLS || isArray(t);
        }

        boolean canBeDeclared(int t) {
            return isElement(t) || isArray(t);
        }

        boolean canBeResult(int t) {
            return t == NONE || canBeDeclared(t);
        }

        boolean isPrimitive(int t) {
            return t >= 0 && t <= DOUBLE;
        }

        boolean isReference(int t) {
            return t > DOUBLE;
        }

        int elementOf(int t) {
            return t >= ARRAY ? t - ARRAY : NONE;
        }

        private boolean isElement(int t) {
            return t >= 0 && t <= NUMBER || isTold(t);
        }

        int add(int parent, boolean isInterface) {
            if (told >= MOST_TOLD || parent < 0 || parent >= PLAIN) {
                return BAD;
            }
            int t = FIRST_TOLD + told;
            above[t] = above[parent] | 1L << t;
            interfaces[told] = isInterface;
            told++;
            return t;
        }

        int putBelow(int type, int face) {
            if (!isTold(type) || !isInterface(face)) {
                return BAD;
            }
            int row = type - FIRST_TOLD;
            int bit = 1 << face - FIRST_TOLD;
            boolean full = Integer.bitCount(toldFaces[row]) >= MOST_FACES;
            if (full || (toldFaces[row] & bit) != 0 || isA(face, type)) {
                return BAD;
            }
            toldFaces[row] |= bit;
            for (int t = FIRST_TOLD; t < FIRST_TOLD + told; t++) {
                if (isA(t, type)) {
                    above[t] |= above[face];
                }
            }
            return Integer.bitCount(toldFaces[row]);
        }

        boolean isA(int s, int t) {
            if (s == t) {
                return true;
            }
            boolean arrays = s >= ARRAY;
            if (arrays != t >= ARRAY) {
                return arrays ? t == OBJECT : s == NULLS;
            }
            int from = arrays ? s - ARRAY : s;
            int to = arrays ? t - ARRAY : t;
            if (arrays && from <= DOUBLE) {
                return false;
            }
            return from >= 0 && from < PLAIN && to >= 0 && to < PLAIN && (above[from] >>> to & 1L) != 0;
        }

        /** Whether s IS t or, where boxing is free, FITS it. */
        boolean accepts(int s, int t, boolean boxing) {
            int twin = s;
            if (isPrimitive(s)) {
                twin = s + FIRST_BOX;
            } else if (s >= FIRST_BOX && s <= LAST_BOX) {
                twin = s - FIRST_BOX;
            }
            return isA(s, t) || boxing && isA(twin, t);
        }
    }

    /** The MEMBERS, which of them are SEEN, and which make FUNCTIONS. */
    private static final class Members {
        static final int MOST = 60, NAMES = 16;

        private static final int STATIC = 1, PRIVATE = 2, ABSTRACT = 4, VARIED = 8, ALL_MARKS = 15;
        private static final int MOST_PARAMETERS = 4;

        private final Types types;
        private final int[] owners;
        private final int[] names;
        private final int[] marks;
        private final int[] results;
        private final int[] widths;
        private final int[] parameters;
        private final int[] functions;
        private boolean functionsSettled;
        private int size;

        // One row more than there may be MEMBERS: a draft stands in the first free row until it is kept.
        Members(Types types) {
            this.types = types;
            owners = new int[MOST + 1];
            names = new int[MOST + 1];
            marks = new int[MOST + 1];
            results = new int[MOST + 1];
            widths = new int[MOST + 1];
            parameters = new int[(MOST + 1) * MOST_PARAMETERS];
            functions = new int[Types.MOST_TOLD];
            // A TYPE that has just come has no MEMBERS yet, and needs no new settling.
            Arrays.fill(functions, NONE);
        }

        int size() {
            return size;
        }

        void draftHead(int owner, int name, int mark, int result) {
            owners[size] = owner;
            names[size] = name;
            marks[size] = mark;
            results[size] = result;
        }

        void draftParameters(int width, int p, int q, int r, int s) {
            int row = size * MOST_PARAMETERS;
            widths[size] = width;
            parameters[row] = p;
            parameters[row + 1] = q;
            parameters[row + 2] = r;
            parameters[row + 3] = s;
        }

        int keepDraft() {
            if (size >= MOST || !hasGoodHead(size) || !hasGoodParameters(size) || isToldTwice(size)) {
                return BAD;
            }
            forgetFunctions();
            size++;
            return size - 1;
        }

        private boolean hasGoodHead(int m) {
            boolean numbered = types.isTold(owners[m]) && names[m] >= 0 && names[m] < NAMES;
            return numbered && hasGoodMarks(m) && types.canBeResult(results[m]);
        }

        private boolean hasGoodMarks(int m) {
            if (marks[m] < 0 || marks[m] > ALL_MARKS) {
                return false;
            }
            boolean hidden = types.isInterface(owners[m]) && isPrivate(m);
            return !isAbstract(m) || !isStatic(m) && !hidden;
        }

        private boolean hasGoodParameters(int m) {
            if (widths[m] < 0 || widths[m] > MOST_PARAMETERS) {
                return false;
            }
            for (int i = 0; i < widths[m]; i++) {
                if (!types.canBeDeclared(parameterAt(m, i))) {
                    return false;
                }
            }
            return !isVaried(m) || types.isArray(parameterAt(m, widths[m] - 1));
        }

        private boolean isToldTwice(int m) {
            for (int o = 0; o < size; o++) {
                if (owners[o] == owners[m] && names[o] == names[m] && sameParameters(o, m)) {
                    return true;
                }
            }
            return false;
        }

        boolean isStatic(int m) {
            return (marks[m] & STATIC) != 0;
        }

        boolean isPrivate(int m) {
            return (marks[m] & PRIVATE) != 0;
        }

        boolean isAbstract(int m) {
            return (marks[m] & ABSTRACT) != 0;
        }

        boolean isVaried(int m) {
            return (marks[m] & VARIED) != 0;
        }

        boolean hasResult(int m) {
            return results[m] != NONE;
        }

        int resultOf(int m) {
            return results[m];
        }

        int widthOf(int m) {
            return widths[m];
        }

        int parameterAt(int m, int i) {
            return i >= 0 && i < widths[m] ? parameters[m * MOST_PARAMETERS + i] : NONE;
        }

        /** The TYPE that stands against the i-th ARGUMENT, the last ARRAY being spread out or not. */
        int facing(int m, int i, boolean spread) {
            int last = widths[m] - 1;
            return spread && i >= last ? types.elementOf(parameterAt(m, last)) : parameterAt(m, i);
        }

        int spreadType(int m) {
            return facing(m, widths[m] - 1, true);
        }

        boolean sameParameters(int m, int o) {
            if (widths[m] != widths[o]) {
                return false;
            }
            for (int i = 0; i < widths[m]; i++) {
                if (parameters[m * MOST_PARAMETERS + i] != parameters[o * MOST_PARAMETERS + i]) {
                    return false;
                }
            }
            return true;
        }

        int listSeen(int type, int name, int from, int[] row) {
            int found = 0;
            for (int m = 0; m < size && found < row.length; m++) {
                if (names[m] == name && isSeen(m, type, from)) {
                    row[found] = m;
                    found++;
                }
            }
            return found;
        }

        private boolean isSeen(int m, int type, int from) {
            if (!types.isA(type, owners[m])) {
                return false;
            }
            return isPrivate(m) ? owners[m] == from : !isOverridden(m, type);
        }

        private boolean isOverridden(int m, int type) {
            for (int o = 0; o < size; o++) {
                if (types.isA(type, owners[o]) && overrides(o, m)) {
                    return true;
                }
            }
            return false;
        }

        private boolean overrides(int o, int m) {
            boolean bound = ((marks[o] | marks[m]) & (STATIC | PRIVATE)) != 0;
            if (bound || names[o] != names[m] || owners[o] == owners[m]) {
                return false;
            }
            return types.isA(owners[o], owners[m]) && sameParameters(o, m);
        }

        void forgetFunctions() {
            functionsSettled = false;
        }

        // Apart from functionOf(), which is asked far more often than MEMBERS or TYPES change.
        void settleFunctions() {
            if (functionsSettled) {
                return;
            }
            for (int k = 0; k < types.size(); k++) {
                int type = Types.FIRST_TOLD + k;
                functions[k] = types.isInterface(type) ? findFunction(type) : NONE;
            }
            functionsSettled = true;
        }

        private int findFunction(int type) {
            int first = NONE;
            for (int m = 0; m < size; m++) {
                if (!isAbstract(m) || !isSeen(m, type, type)) {
                    continue;
                }
                if (first == NONE) {
                    first = m;
                } else if (names[m] != names[first] || !sameParameters(m, first)) {
                    return NONE;
                }
            }
            return first;
        }

        int functionOf(int type) {
            return types.isTold(type) ? functions[type - Types.FIRST_TOLD] : NONE;
        }
    }

    /** The ARGUMENTS of the next choice. */
    private static final class Arguments {
        static final int MOST_PARAMETERS = 2;

        private static final int MOST = 5;

        private final boolean[] lambdas;
        private final boolean[] toldOnes;
        private final int[] values;
        private final int[] widths;
        private final int[] parameters;
        private int size;

        Arguments() {
            lambdas = new boolean[MOST];
            toldOnes = new boolean[MOST];
            values = new int[MOST];
            widths = new int[MOST];
            parameters = new int[MOST * MOST_PARAMETERS];
        }

        int size() {
            return size;
        }

        int addType(int type) {
            if (size >= MOST) {
                return BAD;
            }
            lambdas[size] = false;
            toldOnes[size] = false;
            values[size] = type;
            widths[size] = 0;
            size++;
            return size;
        }

        int addLambda(int width, boolean told, int p, int q, int result) {
            if (size >= MOST) {
                return BAD;
            }
            lambdas[size] = true;
            toldOnes[size] = told;
            values[size] = result;
            widths[size] = width;
            parameters[size * MOST_PARAMETERS] = p;
            parameters[size * MOST_PARAMETERS + 1] = q;
            size++;
            return size;
        }

        int clear() {
            int before = size;
            size = 0;
            return before;
        }

        boolean isLambda(int i) {
            return lambdas[i];
        }

        boolean isToldLambda(int i) {
            return lambdas[i] && toldOnes[i];
        }

        /** An ARGUMENT's own TYPE, or a LAMBDA's result. */
        int valueOf(int i) {
            return values[i];
        }

        boolean hasResult(int i) {
            return values[i] != NONE;
        }

        int widthOf(int i) {
            return widths[i];
        }

        int parameterAt(int i, int k) {
            return k >= 0 && k < widths[i] ? parameters[i * MOST_PARAMETERS + k] : NONE;
        }
    }

    /** The latest choice, and all that may be asked of it after the TYPES, MEMBERS and ARGUMENTS have changed. */
    private static final class Choice {
        private static final int LAST_PHASE = 3;

        private final Types types;
        private final Members members;
        private final Arguments arguments;
        private final int[] candidates;
        private final int[] applying;
        private final long[] asSpecial;
        private int candidateCount;
        private int applyingCount;
        private long applyingBits;
        private int reached;

        Choice(Types types, Members members, Arguments arguments) {
            this.types = types;
            this.members = members;
            this.arguments = arguments;
            candidates = new int[Members.MOST];
            applying = new int[Members.MOST];
            asSpecial = new long[Members.MOST];
        }

        int phaseReached() {
            return reached;
        }

        int applyingAt(int i) {
            return i >= 0 && i < applyingCount ? applying[i] : NONE;
        }

        int compared(int m, int o) {
            if (!didApply(m) || !didApply(o)) {
                return NONE;
            }
            return (asSpecial[m] >>> o & 1L) != 0 ? 1 : 0;
        }

        private boolean didApply(int m) {
            return m >= 0 && m < Members.MOST && (applyingBits >>> m & 1L) != 0;
        }

        int decide(int type, int name, int from) {
            forget();
            members.settleFunctions();
            candidateCount = members.listSeen(type, name, from, candidates);
            if (candidateCount == 0) {
                return UNSEEN;
            }
            keepMeant();
            if (candidateCount == 0) {
                return UNMEANT;
            }
            for (int phase = 1; phase <= LAST_PHASE && applyingCount == 0; phase++) {
                findApplying(phase);
            }
            if (applyingCount == 0) {
                return UNFIT;
            }
            compareAll();
            return pick();
        }

        private void forget() {
            reached = 0;
            applyingCount = 0;
            applyingBits = 0;
        }

        private void keepMeant() {
            int kept = 0;
            for (int k = 0; k < candidateCount; k++) {
                if (couldBeMeant(candidates[k])) {
                    candidates[kept] = candidates[k];
                    kept++;
                }
            }
            candidateCount = kept;
        }

        private void findApplying(int phase) {
            for (int k = 0; k < candidateCount; k++) {
                int m = candidates[k];
                if (applies(m, phase)) {
                    reached = phase;
                    applying[applyingCount] = m;
                    applyingBits |= 1L << m;
                    applyingCount++;
                }
            }
        }

        // All pairs at once, since special() may ask for any of them when the state is another.
        private void compareAll() {
            for (int k = 0; k < applyingCount; k++) {
                int m = applying[k];
                asSpecial[m] = 0;
                for (int j = 0; j < applyingCount; j++) {
                    if (isAsSpecialAs(m, applying[j])) {
                        asSpecial[m] |= 1L << applying[j];
                    }
                }
            }
        }

        private int pick() {
            int first = NONE;
            int concrete = NONE;
            int concretes = 0;
            for (int k = 0; k < applyingCount; k++) {
                int m = applying[k];
                if (asSpecial[m] != applyingBits) {
                    continue;
                }
                if (first == NONE) {
                    first = m;
                } else if (!members.sameParameters(first, m)) {
                    return AMBIGUOUS;
                }
                if (!members.isAbstract(m)) {
                    concrete = m;
                    concretes++;
                }
            }
            if (first == NONE || concretes > 1) {
                return AMBIGUOUS;
            }
            return concretes == 1 ? concrete : first;
        }

        private boolean couldBeMeant(int m) {
            boolean varied = members.isVaried(m);
            int width = members.widthOf(m);
            if (width != arguments.size() && !(varied && width <= arguments.size() + 1)) {
                return false;
            }
            for (int i = 0; i < arguments.size(); i++) {
                if (arguments.isLambda(i) && !hasShape(members.facing(m, i, varied), i)) {
                    return false;
                }
            }
            return true;
        }

        /** Whether a parameter's TYPE is a FUNCTION that is shaped as the i-th ARGUMENT, a LAMBDA. */
        private boolean hasShape(int type, int i) {
            int f = members.functionOf(type);
            if (f == NONE) {
                return false;
            }
            return members.widthOf(f) == arguments.widthOf(i) && members.hasResult(f) == arguments.hasResult(i);
        }

        private boolean applies(int m, int phase) {
            boolean spread = phase == LAST_PHASE;
            if (spread ? !members.isVaried(m) : members.widthOf(m) != arguments.size()) {
                return false;
            }
            for (int i = 0; i < arguments.size(); i++) {
                if (!takes(members.facing(m, i, spread), i, phase > 1)) {
                    return false;
                }
            }
            return true;
        }

        private boolean takes(int type, int i, boolean boxing) {
            if (!arguments.isLambda(i)) {
                return types.accepts(arguments.valueOf(i), type, boxing);
            }
            if (!hasShape(type, i)) {
                return false;
            }
            return !arguments.isToldLambda(i) || takesTold(members.functionOf(type), i, boxing);
        }

        private boolean takesTold(int f, int i, boolean boxing) {
            for (int k = 0; k < arguments.widthOf(i); k++) {
                if (members.parameterAt(f, k) != arguments.parameterAt(i, k)) {
                    return false;
                }
            }
            return !arguments.hasResult(i) || types.accepts(arguments.valueOf(i), members.resultOf(f), boxing);
        }

        private boolean isAsSpecialAs(int m, int o) {
            boolean spread = reached == LAST_PHASE;
            for (int i = 0; i < arguments.size(); i++) {
                int p = members.facing(m, i, spread);
                int q = members.facing(o, i, spread);
                if (!types.isA(p, q) && !isFinerFunction(p, q, i)) {
                    return false;
                }
            }
            return !spread || types.isA(members.spreadType(m), members.spreadType(o));
        }

        private boolean isFinerFunction(int p, int q, int i) {
            int f = members.functionOf(p);
            int g = members.functionOf(q);
            if (!arguments.isToldLambda(i) || f == NONE || g == NONE) {
                return false;
            }
            if (types.isA(p, q) || types.isA(q, p) || !members.sameParameters(f, g)) {
                return false;
            }
            return !members.hasResult(g) || members.hasResult(f) && isFinerResult(f, g, arguments.valueOf(i));
        }

        private boolean isFinerResult(int f, int g, int given) {
            int p = members.resultOf(f);
            int q = members.resultOf(g);
            if (types.isPrimitive(p) && types.isReference(q)) {
                return types.isPrimitive(given);
            }
            if (types.isReference(p) && types.isPrimitive(q)) {
                return types.isReference(given);
            }
            return types.isA(p, q);
        }
    }
}
