import java.util.Arrays;

/** Marks on places of a program; ../shared/DOC.md says what each call answers. */
public final class MarkRules {
    public static final int NONE = -1, BAD = -2, FULL = -3, STATE = -4, FAILED = -5, RING = -6;

    private static final int MAX_MARKS = 12;
    private static final int MAX_ELEMENTS = 5;
    private static final int MAX_PLACES = 40;
    private static final int MAX_VALUES = 100;
    private static final int MAX_IN_ROW = 4;
    private static final int MAX_OF_MARK_AT_PLACE = 4;
    private static final int MAX_DEPTH = 2;
    private static final int MAX_TEXT = 2000;
    private static final int MAX_DIGITS = 10;
    /** DEPTH 2 lets a ROW nest eight levels; nothing that can be built comes near this. */
    private static final int MAX_NESTING = 16;

    private static final int ALL_TARGETS = 31;
    private static final int RUN = 2;
    private static final int LAST_NAME = 9;
    private static final int CONTENT_NAME = 0;

    private static final int NUMBER = 0, WORD = 1, CHOICE = 2, TYPE = 3, FIRST_MARK_KIND = 10;
    private static final int LAST_WORD = 99;
    private static final int LAST_CHOICE = 4;

    private static final int CLASS = 0, FACE = 1, FIELD = 2, METHOD = 3, VOID_METHOD = 4, PARAMETER = 5;
    /** The TARGETS that fit at each sort of PLACE. */
    private static final int[] FITTING_TARGETS = {1, 1, 2 + 16, 4 + 16, 4, 8 + 16};

    private static final int SIMPLE = 0, ROW = 1, INSTANCE = 2;
    private static final int NO_FAILURE = 0, NULL = 1, CAST = 2, STORE = 3;

    private static final int RULE_BASE = -10;
    private static final int NO_RULE = 0;
    private static final int SEVERAL_BASE = -100;

    private static final int COUNT_FAILURES = 10, COUNT_ELEMENTS = 20, COUNT_CONTAINER = 40;

    private final Marks marks;
    private final Places places;
    private final Values values;
    private final Standing standing;
    private final Writer writer;
    private final int[] failures;
    private int latestFailure;

    public MarkRules() {
        Marks newMarks = new Marks();
        Values newValues = new Values(newMarks);
        marks = newMarks;
        values = newValues;
        places = new Places();
        standing = new Standing();
        writer = new Writer(newMarks, newValues);
        failures = new int[STORE + 1];
        latestFailure = NO_FAILURE;
    }

    public int mark(int targets, int keep, boolean inherited) {
        if (targets < 0 || targets > ALL_TARGETS || keep < 0 || keep > RUN) {
            return BAD;
        }
        return marks.add(targets, keep, inherited);
    }

    public int element(int mark, int name, int kind, boolean row) {
        if (!marks.has(mark) || name < 0 || name > LAST_NAME || !marks.hasKind(kind)) {
            return BAD;
        }
        if (marks.slotOf(mark, name) != NONE) {
            return BAD;
        }
        if (marks.isFixed(mark)) {
            return STATE;
        }
        if (marks.wouldLeadTooFar(mark, kind)) {
            return RING;
        }
        return marks.addElement(mark, name, kind, row);
    }

    public int fallback(int mark, int name, int value) {
        int slot = marks.slotOf(mark, name);
        if (slot == NONE || !isValueOrNone(value)) {
            return BAD;
        }
        if (marks.isFixed(mark)) {
            return STATE;
        }
        if (value != NONE && (values.dones[value] || !values.isWhole(value, 0))) {
            return STATE;
        }
        int taken = takeFor(slot, value);
        if (taken < 0) {
            return taken;
        }
        marks.defaults[slot] = taken;
        return 1;
    }

    public int container(int m, int c) {
        if (!marks.has(m) || !marks.has(c)) {
            return BAD;
        }
        if (marks.containers[m] != NONE || marks.everPut[m]) {
            return STATE;
        }
        if (!marks.canContain(c, m)) {
            return 0;
        }
        marks.containers[m] = c;
        marks.contents[c] = m;
        return 1;
    }

    public int place(int kind, int of) {
        return places.fits(kind, of) ? places.add(kind, of) : BAD;
    }

    public int value(int kind, int v) {
        return isSimple(kind, v) ? values.add(SIMPLE, kind, v) : BAD;
    }

    public int row(int kind) {
        return marks.hasKind(kind) ? values.add(ROW, kind, 0) : BAD;
    }

    public int push(int row, int value) {
        if (!values.isSort(row, ROW) || !isValueOrNone(value)) {
            return BAD;
        }
        if (values.dones[row] || isDoneOrSame(value, row)) {
            return STATE;
        }
        if (values.numbers[row] >= MAX_IN_ROW) {
            return FULL;
        }
        if (value == NONE) {
            return fail(NULL);
        }
        if (!values.isOfKind(value, values.kinds[row])) {
            return fail(STORE);
        }
        latestFailure = NO_FAILURE;
        return values.append(row, value);
    }

    public int instance(int mark) {
        if (!marks.has(mark)) {
            return BAD;
        }
        int made = values.add(INSTANCE, FIRST_MARK_KIND + mark, 0);
        if (made != FULL) {
            marks.everMade[mark] = true;
        }
        return made;
    }

    public int give(int instance, int name, int value) {
        if (!values.isSort(instance, INSTANCE) || !isValueOrNone(value)) {
            return BAD;
        }
        int mark = values.markOf(instance);
        int position = marks.positionOf(mark, name);
        if (position == NONE) {
            return BAD;
        }
        if (values.dones[instance] || isDoneOrSame(value, instance)) {
            return STATE;
        }
        if (values.partAt(instance, position) != NONE) {
            return STATE;
        }
        int taken = takeFor(marks.slotOf(mark, name), value);
        if (taken < 0) {
            return taken;
        }
        values.setElement(instance, position, taken);
        return 1;
    }

    public int put(int place, int instance) {
        if (!places.has(place) || !values.isSort(instance, INSTANCE)) {
            return BAD;
        }
        if (values.dones[instance]) {
            return STATE;
        }
        int rule = brokenRule(place, instance);
        if (rule != NO_RULE) {
            return RULE_BASE - rule;
        }
        int mark = values.markOf(instance);
        if (standing.howMany(place, mark) >= MAX_OF_MARK_AT_PLACE) {
            return FULL;
        }
        values.dones[instance] = true;
        marks.everPut[mark] = true;
        standing.add(place, mark, instance);
        return standing.howMany(place, mark);
    }

    public int cause() {
        return latestFailure;
    }

    public int told(int value, int what) {
        if (!values.has(value)) {
            return BAD;
        }
        switch (what) {
            case 0:
                return values.sorts[value];
            case 1:
                return values.kinds[value];
            case 2:
                return values.numbers[value];
            case 3:
                return asNumber(values.dones[value]);
            case 4:
                return asNumber(values.isWhole(value, 0));
            default:
                return BAD;
        }
    }

    public int part(int value, int k) {
        if (values.isSort(value, ROW)) {
            return values.inRow(value, k);
        }
        if (values.isSort(value, INSTANCE)) {
            return values.elementByName(value, k);
        }
        return BAD;
    }

    public int equal(int a, int b) {
        if (!values.has(a) || !values.has(b)) {
            return BAD;
        }
        return asNumber(values.areEqual(a, b, 0));
    }

    public int written(int value) {
        return values.has(value) ? writer.write(value) : BAD;
    }

    public int letter(int i) {
        return i >= 0 && i < writer.length ? writer.bytes[i] : NONE;
    }

    public int ask(int place, int mark, boolean found) {
        if (!places.has(place) || !marks.has(mark)) {
            return BAD;
        }
        return found ? foundAt(place, mark) : ownAt(place, mark);
    }

    public int all(int place, int mark) {
        if (!places.has(place) || !marks.has(mark)) {
            return BAD;
        }
        int source = sourceOfAll(place, mark);
        return source == NONE ? 0 : howManyHere(source, mark);
    }

    public int of(int place, int mark, int i) {
        if (!places.has(place) || !marks.has(mark)) {
            return BAD;
        }
        int source = sourceOfAll(place, mark);
        if (source == NONE) {
            return NONE;
        }
        if (standing.howMany(source, mark) > 0) {
            return standing.nth(source, mark, i);
        }
        return values.inRow(containerRowAt(source, mark), i);
    }

    public int stands(int place) {
        return places.has(place) ? standing.howManyAt(place) : BAD;
    }

    public int count(int what) {
        switch (what) {
            case 0:
                return marks.size;
            case 1:
                return places.size;
            case 2:
                return values.size;
            case 3:
                return standing.size;
            case COUNT_FAILURES + NULL:
            case COUNT_FAILURES + CAST:
            case COUNT_FAILURES + STORE:
                return failures[what - COUNT_FAILURES];
            default:
                return countOfMark(what);
        }
    }

    private int countOfMark(int what) {
        if (marks.has(what - COUNT_ELEMENTS)) {
            return marks.sizes[what - COUNT_ELEMENTS];
        }
        if (marks.has(what - COUNT_CONTAINER)) {
            return marks.containers[what - COUNT_CONTAINER];
        }
        return BAD;
    }

    private static int asNumber(boolean holds) {
        return holds ? 1 : 0;
    }

    private boolean isValueOrNone(int value) {
        return value == NONE || values.has(value);
    }

    private boolean isDoneOrSame(int value, int holder) {
        return value != NONE && (value == holder || values.dones[value]);
    }

    private boolean isSimple(int kind, int v) {
        switch (kind) {
            case NUMBER:
                return true;
            case WORD:
                return v >= 0 && v <= LAST_WORD;
            case CHOICE:
                return v >= 0 && v <= LAST_CHOICE;
            case TYPE:
                return places.isType(v);
            default:
                return false;
        }
    }

    private int fail(int failure) {
        latestFailure = failure;
        failures[failure]++;
        return FAILED;
    }

    /** GIVES a VALUE to an ELEMENT: the VALUE that it has then, DONE, or FULL, or FAILED. */
    private int takeFor(int slot, int value) {
        if (value == NONE) {
            return fail(NULL);
        }
        int kind = marks.kinds[slot];
        boolean wrap = marks.rows[slot] && values.isOfKind(value, kind);
        boolean asItIs = marks.rows[slot] ? values.isRowOf(value, kind) : values.isOfKind(value, kind);
        if (!wrap && !asItIs) {
            return fail(CAST);
        }
        int taken = wrap ? values.addRowOfOne(kind, value) : value;
        if (taken == FULL) {
            return FULL;
        }
        latestFailure = NO_FAILURE;
        values.finish(taken);
        return taken;
    }

    private int brokenRule(int place, int instance) {
        int mark = values.markOf(instance);
        int container = marks.containers[mark];
        int content = marks.contents[mark];
        if ((marks.targets[mark] & places.fittingTargets(place)) == 0) {
            return 1;
        }
        if (!values.isWhole(instance, 0)) {
            return 2;
        }
        if (container == NONE && standing.howMany(place, mark) > 0) {
            return 3;
        }
        if (container != NONE && standing.howMany(place, container) > 0) {
            return 4;
        }
        if (content != NONE && standing.howMany(place, content) > 0) {
            return 5;
        }
        return NO_RULE;
    }

    private int ownAt(int place, int mark) {
        if (marks.keeps[mark] != RUN) {
            return NONE;
        }
        int here = standing.howMany(place, mark);
        if (here == 0) {
            return gatheredAt(place, marks.contents[mark]);
        }
        return here == 1 ? standing.nth(place, mark, 0) : NONE;
    }

    /** The answer for a CONTAINER that nobody put, but that several of its content stand for. */
    private int gatheredAt(int place, int content) {
        if (content == NONE || marks.keeps[content] != RUN) {
            return NONE;
        }
        int here = standing.howMany(place, content);
        return here > 1 ? SEVERAL_BASE - here : NONE;
    }

    private int foundAt(int place, int mark) {
        int at = place;
        for (int step = 0; step < MAX_PLACES && at != NONE; step++) {
            int own = ownAt(at, mark);
            if (own != NONE) {
                return own;
            }
            at = inheritsFrom(at, mark);
        }
        return NONE;
    }

    private int inheritsFrom(int place, int mark) {
        return marks.inherited[mark] ? places.parentOf(place) : NONE;
    }

    /** The nearest PLACE that has some of ALL OF a MARK, the PLACE itself or one it inherits from. */
    private int sourceOfAll(int place, int mark) {
        if (marks.keeps[mark] != RUN) {
            return NONE;
        }
        int at = place;
        for (int step = 0; step < MAX_PLACES && at != NONE; step++) {
            if (howManyHere(at, mark) > 0) {
                return at;
            }
            at = inheritsFrom(at, mark);
        }
        return NONE;
    }

    private int howManyHere(int place, int mark) {
        int here = standing.howMany(place, mark);
        if (here > 0) {
            return here;
        }
        int row = containerRowAt(place, mark);
        return row == NONE ? 0 : values.numbers[row];
    }

    private int containerRowAt(int place, int mark) {
        int container = marks.containers[mark];
        if (container == NONE) {
            return NONE;
        }
        int own = ownAt(place, container);
        return values.isSort(own, INSTANCE) ? values.elementByName(own, CONTENT_NAME) : NONE;
    }

    /** Columns over the MARKS, and over their ELEMENTS: those of a MARK lie in slots side by side. */
    private static final class Marks {
        int size = 0;
        final int[] targets = new int[MAX_MARKS];
        final int[] keeps = new int[MAX_MARKS];
        final boolean[] inherited = new boolean[MAX_MARKS];
        final int[] sizes = new int[MAX_MARKS];
        /** A bit for each MARK that an ELEMENT has as KIND. */
        final int[] leads = new int[MAX_MARKS];
        final int[] containers = new int[MAX_MARKS];
        /** The MARK of which this one is the CONTAINER: one at most, as ELEMENT 0 has one KIND. */
        final int[] contents = new int[MAX_MARKS];
        final boolean[] everMade = new boolean[MAX_MARKS];
        final boolean[] everPut = new boolean[MAX_MARKS];

        final int[] names = new int[MAX_MARKS * MAX_ELEMENTS];
        final int[] kinds = new int[MAX_MARKS * MAX_ELEMENTS];
        final boolean[] rows = new boolean[MAX_MARKS * MAX_ELEMENTS];
        final int[] defaults = new int[MAX_MARKS * MAX_ELEMENTS];

        Marks() {
            Arrays.fill(containers, NONE);
            Arrays.fill(contents, NONE);
            Arrays.fill(defaults, NONE);
        }

        boolean has(int mark) {
            return mark >= 0 && mark < size;
        }

        boolean hasKind(int kind) {
            return kind >= NUMBER && kind <= TYPE || has(kind - FIRST_MARK_KIND);
        }

        int add(int itsTargets, int keep, boolean isInherited) {
            if (size >= MAX_MARKS) {
                return FULL;
            }
            targets[size] = itsTargets;
            keeps[size] = keep;
            inherited[size] = isInherited;
            size++;
            return size - 1;
        }

        int addElement(int mark, int name, int kind, boolean isRow) {
            if (sizes[mark] >= MAX_ELEMENTS) {
                return FULL;
            }
            int slot = mark * MAX_ELEMENTS + sizes[mark];
            names[slot] = name;
            kinds[slot] = kind;
            rows[slot] = isRow;
            leads[mark] |= leadOf(kind);
            sizes[mark]++;
            return sizes[mark];
        }

        /** Which ELEMENT of a MARK has a NAME, counted from 0. */
        int positionOf(int mark, int name) {
            if (!has(mark)) {
                return NONE;
            }
            for (int position = 0; position < sizes[mark]; position++) {
                if (names[mark * MAX_ELEMENTS + position] == name) {
                    return position;
                }
            }
            return NONE;
        }

        int slotOf(int mark, int name) {
            int position = positionOf(mark, name);
            return position == NONE ? NONE : mark * MAX_ELEMENTS + position;
        }

        boolean isFixed(int mark) {
            return everMade[mark] || containers[mark] != NONE || contents[mark] != NONE;
        }

        private static int leadOf(int kind) {
            return kind >= FIRST_MARK_KIND ? 1 << (kind - FIRST_MARK_KIND) : 0;
        }

        /**
         * Looks for a way of more than MAX_DEPTH steps from MARK to MARK.
         * A ring needs no look of its own: it has ways of any length.
         */
        boolean wouldLeadTooFar(int mark, int kind) {
            int before = leads[mark];
            leads[mark] |= leadOf(kind);
            int reaching = (1 << size) - 1;
            for (int step = 0; step <= MAX_DEPTH; step++) {
                reaching = leadingInto(reaching);
            }
            leads[mark] = before;
            return reaching != 0;
        }

        private int leadingInto(int aims) {
            int found = 0;
            for (int mark = 0; mark < size; mark++) {
                if ((leads[mark] & aims) != 0) {
                    found |= 1 << mark;
                }
            }
            return found;
        }

        boolean canContain(int c, int m) {
            int slot = slotOf(c, CONTENT_NAME);
            if (slot == NONE || !rows[slot] || kinds[slot] != FIRST_MARK_KIND + m) {
                return false;
            }
            return keeps[c] >= keeps[m]
                && (targets[c] & ~targets[m]) == 0
                && (inherited[c] || !inherited[m])
                && othersHaveDefaults(c);
        }

        private boolean othersHaveDefaults(int c) {
            for (int position = 0; position < sizes[c]; position++) {
                int slot = c * MAX_ELEMENTS + position;
                if (names[slot] != CONTENT_NAME && defaults[slot] == NONE) {
                    return false;
                }
            }
            return true;
        }
    }

    private static final class Places {
        int size = 0;
        final int[] kinds = new int[MAX_PLACES];
        final int[] owners = new int[MAX_PLACES];

        boolean has(int place) {
            return place >= 0 && place < size;
        }

        boolean isType(int place) {
            return has(place) && (kinds[place] == CLASS || kinds[place] == FACE);
        }

        private boolean isClass(int place) {
            return has(place) && kinds[place] == CLASS;
        }

        private boolean isMethod(int place) {
            return has(place) && (kinds[place] == METHOD || kinds[place] == VOID_METHOD);
        }

        boolean fits(int kind, int owner) {
            switch (kind) {
                case CLASS:
                    return owner == NONE || isClass(owner);
                case FACE:
                    return owner == NONE;
                case FIELD:
                case METHOD:
                case VOID_METHOD:
                    return isType(owner);
                case PARAMETER:
                    return isMethod(owner);
                default:
                    return false;
            }
        }

        int add(int kind, int owner) {
            if (size >= MAX_PLACES) {
                return FULL;
            }
            kinds[size] = kind;
            owners[size] = owner;
            size++;
            return size - 1;
        }

        int parentOf(int place) {
            return isClass(place) ? owners[place] : NONE;
        }

        int fittingTargets(int place) {
            return FITTING_TARGETS[kinds[place]];
        }
    }

    /** Columns over the VALUES; the parts of a ROW, or of an INSTANCE by position, lie side by side. */
    private static final class Values {
        private final Marks marks;
        int size = 0;
        final int[] sorts = new int[MAX_VALUES];
        final int[] kinds = new int[MAX_VALUES];
        final int[] numbers = new int[MAX_VALUES];
        final boolean[] dones = new boolean[MAX_VALUES];
        private final int[] parts = new int[MAX_VALUES * MAX_ELEMENTS];

        Values(Marks itsMarks) {
            marks = itsMarks;
            Arrays.fill(parts, NONE);
        }

        boolean has(int v) {
            return v >= 0 && v < size;
        }

        boolean isSort(int v, int sort) {
            return has(v) && sorts[v] == sort;
        }

        boolean isOfKind(int v, int kind) {
            return has(v) && sorts[v] != ROW && kinds[v] == kind;
        }

        boolean isRowOf(int v, int kind) {
            return isSort(v, ROW) && kinds[v] == kind;
        }

        int markOf(int anInstance) {
            return kinds[anInstance] - FIRST_MARK_KIND;
        }

        int add(int sort, int kind, int number) {
            if (size >= MAX_VALUES) {
                return FULL;
            }
            sorts[size] = sort;
            kinds[size] = kind;
            numbers[size] = number;
            size++;
            return size - 1;
        }

        int addRowOfOne(int kind, int v) {
            int made = add(ROW, kind, 0);
            if (made != FULL) {
                append(made, v);
            }
            return made;
        }

        int append(int aRow, int v) {
            parts[aRow * MAX_ELEMENTS + numbers[aRow]] = v;
            numbers[aRow]++;
            finish(v);
            return numbers[aRow];
        }

        void setElement(int anInstance, int position, int v) {
            parts[anInstance * MAX_ELEMENTS + position] = v;
            numbers[anInstance]++;
        }

        /** Only ROWS and INSTANCES are ever DONE. */
        void finish(int v) {
            dones[v] = sorts[v] != SIMPLE;
        }

        int partAt(int v, int position) {
            return parts[v * MAX_ELEMENTS + position];
        }

        int inRow(int aRow, int k) {
            return isSort(aRow, ROW) && k >= 0 && k < numbers[aRow] ? partAt(aRow, k) : NONE;
        }

        int elementAt(int anInstance, int position) {
            int given = partAt(anInstance, position);
            return given != NONE ? given : marks.defaults[markOf(anInstance) * MAX_ELEMENTS + position];
        }

        int elementByName(int anInstance, int name) {
            int position = marks.positionOf(markOf(anInstance), name);
            return position == NONE ? NONE : elementAt(anInstance, position);
        }

        int howManyElements(int anInstance) {
            return marks.sizes[markOf(anInstance)];
        }

        boolean isWhole(int v, int depth) {
            if (!has(v) || depth > MAX_NESTING) {
                return false;
            }
            switch (sorts[v]) {
                case ROW:
                    return areAllWhole(v, depth);
                case INSTANCE:
                    return hasAllElementsWhole(v, depth);
                default:
                    return true;
            }
        }

        private boolean areAllWhole(int aRow, int depth) {
            for (int k = 0; k < numbers[aRow]; k++) {
                if (!isWhole(partAt(aRow, k), depth + 1)) {
                    return false;
                }
            }
            return true;
        }

        /** A DEFAULT was WHOLE when it was told and never changes, so it is not looked into again. */
        private boolean hasAllElementsWhole(int anInstance, int depth) {
            for (int position = 0; position < howManyElements(anInstance); position++) {
                int given = partAt(anInstance, position);
                if (given == NONE ? elementAt(anInstance, position) == NONE : !isWhole(given, depth + 1)) {
                    return false;
                }
            }
            return true;
        }

        /** Two that are one are EQUAL, and so are two ELEMENTS that have no VALUE. */
        boolean areEqual(int a, int b, int depth) {
            if (a == b) {
                return true;
            }
            if (!has(a) || !has(b) || depth > MAX_NESTING) {
                return false;
            }
            if (sorts[a] != sorts[b] || kinds[a] != kinds[b]) {
                return false;
            }
            if (sorts[a] == INSTANCE) {
                return haveEqualElements(a, b, depth);
            }
            return numbers[a] == numbers[b] && (sorts[a] == SIMPLE || haveEqualParts(a, b, depth));
        }

        private boolean haveEqualElements(int a, int b, int depth) {
            for (int position = 0; position < howManyElements(a); position++) {
                if (!areEqual(elementAt(a, position), elementAt(b, position), depth + 1)) {
                    return false;
                }
            }
            return true;
        }

        private boolean haveEqualParts(int a, int b, int depth) {
            for (int k = 0; k < numbers[a]; k++) {
                if (!areEqual(partAt(a, k), partAt(b, k), depth + 1)) {
                    return false;
                }
            }
            return true;
        }
    }

    /** What was put, in its order: an INSTANCE is put once at most. */
    private static final class Standing {
        int size = 0;
        private final int[] spots = new int[MAX_VALUES];
        private final int[] kinds = new int[MAX_VALUES];
        private final int[] instances = new int[MAX_VALUES];

        void add(int place, int mark, int anInstance) {
            if (size >= MAX_VALUES) {
                return;
            }
            spots[size] = place;
            kinds[size] = mark;
            instances[size] = anInstance;
            size++;
        }

        int howManyAt(int place) {
            int found = 0;
            for (int k = 0; k < size; k++) {
                if (spots[k] == place) {
                    found++;
                }
            }
            return found;
        }

        int howMany(int place, int mark) {
            int found = 0;
            for (int k = 0; k < size; k++) {
                if (spots[k] == place && kinds[k] == mark) {
                    found++;
                }
            }
            return found;
        }

        int nth(int place, int mark, int i) {
            int before = 0;
            for (int k = 0; k < size; k++) {
                if (spots[k] == place && kinds[k] == mark) {
                    if (before == i) {
                        return instances[k];
                    }
                    before++;
                }
            }
            return NONE;
        }
    }

    /** Writes a VALUE twice: first only counting, so that a text too long leaves the old one as it was. */
    private static final class Writer {
        private final Marks marks;
        private final Values values;
        final byte[] bytes = new byte[MAX_TEXT];
        int length = 0;
        private final int[] digits = new int[MAX_DIGITS];
        private int at = 0;
        private boolean keeps = false;

        Writer(Marks itsMarks, Values itsValues) {
            marks = itsMarks;
            values = itsValues;
        }

        int write(int v) {
            begin(false);
            writeValue(v, 0);
            if (at > MAX_TEXT) {
                return FULL;
            }
            begin(true);
            writeValue(v, 0);
            length = at;
            return length;
        }

        private void begin(boolean keepsBytes) {
            at = 0;
            keeps = keepsBytes;
        }

        private void writeByte(int b) {
            if (keeps && at < MAX_TEXT) {
                bytes[at] = (byte) b;
            }
            at++;
        }

        private void writeValue(int v, int depth) {
            if (!values.has(v) || depth > MAX_NESTING || at > MAX_TEXT) {
                return;
            }
            switch (values.sorts[v]) {
                case ROW:
                    writeRow(v, depth);
                    break;
                case INSTANCE:
                    writeInstance(v, depth);
                    break;
                default:
                    writeSimple(values.kinds[v], values.numbers[v]);
                    break;
            }
        }

        private void writeRow(int v, int depth) {
            writeByte('{');
            for (int k = 0; k < values.numbers[v]; k++) {
                if (k > 0) {
                    writeByte(',');
                }
                writeValue(values.partAt(v, k), depth + 1);
            }
            writeByte('}');
        }

        private void writeInstance(int v, int depth) {
            int mark = values.markOf(v);
            boolean isFirst = true;
            writeByte('@');
            writeDigits(mark);
            writeByte('(');
            for (int position = 0; position < marks.sizes[mark]; position++) {
                int held = values.elementAt(v, position);
                if (held == NONE) {
                    continue;
                }
                if (!isFirst) {
                    writeByte(',');
                }
                isFirst = false;
                writeDigits(marks.names[mark * MAX_ELEMENTS + position]);
                writeByte('=');
                writeValue(held, depth + 1);
            }
            writeByte(')');
        }

        private void writeSimple(int kind, int number) {
            switch (kind) {
                case WORD:
                    writeByte('w');
                    break;
                case CHOICE:
                    writeByte('c');
                    break;
                case TYPE:
                    writeByte('t');
                    break;
                default:
                    break;
            }
            writeDigits(number);
        }

        /** As a long, because the least int has no opposite among the ints. */
        private void writeDigits(int number) {
            long rest = Math.abs((long) number);
            if (number < 0) {
                writeByte('-');
            }
            int used = 0;
            for (int k = 0; k < MAX_DIGITS && (k == 0 || rest > 0); k++) {
                digits[k] = (int) (rest % 10);
                rest = rest / 10;
                used++;
            }
            for (int k = used - 1; k >= 0; k--) {
                writeByte('0' + digits[k]);
            }
        }
    }
}
