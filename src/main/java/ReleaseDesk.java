import java.util.Arrays;

/**
 * Compares two builds of a library and says what their changes mean for a release. The promises
 * that it keeps, and the words in capitals, are those of the document.
 */
public final class ReleaseDesk {
    public static final int REFUSED = -1;
    public static final int NONE = -2;
    public static final int FULL = -3;

    private static final int OLD = 0;
    private static final int NEW = 1;

    private static final int TYPES = 8;
    private static final int PACKAGES = 3;
    private static final int SIGNS = 12;
    private static final int RULES = 8;
    private static final int LETTERS = 12;
    private static final int LONGEST_NAME = 15;

    private static final int TYPE_MODES = 16;
    private static final int PUBLIC_TYPE = 1;
    private static final int INTERFACE_TYPE = 2;
    private static final int ABSTRACT_TYPE = 4;
    private static final int FINAL_TYPE = 8;

    private static final int MEMBER_MODES = 8;
    private static final int STATIC_MEMBER = 1;
    private static final int ABSTRACT_MEMBER = 2;
    private static final int FINAL_MEMBER = 4;

    private static final int PROTECTED = 2;
    private static final int PUBLIC = 3;

    // The members of a type stand in slots: its fields by their signs, then its methods by theirs.
    private static final int SLOTS = 2 * SIGNS;
    private static final int NO_MEMBER = -1;
    private static final int ABSENT = -1;

    // A type has at most six changes of its own, and each of its members at most four.
    private static final int MOST_CHANGES = TYPES * (6 + 4 * SLOTS);

    private static final int BREAK = 3;
    private static final int WARNING = 2;
    private static final int NOTE = 1;
    private static final int SILENT = 0;

    private static final int TYPE_REMOVED = 1;
    private static final int TYPE_HIDDEN = 2;
    private static final int TYPE_ADDED = 3;
    private static final int TYPE_MOVED = 4;
    private static final int TYPE_TURNED = 5;
    private static final int TYPE_MADE_ABSTRACT = 6;
    private static final int TYPE_NO_MORE_ABSTRACT = 7;
    private static final int TYPE_MADE_FINAL = 8;
    private static final int TYPE_NO_MORE_FINAL = 9;
    private static final int ABOVE_LOST = 10;
    private static final int ABOVE_WON = 11;
    private static final int MEMBER_REMOVED = 20;
    private static final int MEMBER_INHERITED = 21;
    private static final int LESS_ACCESS = 22;
    private static final int MEMBER_ADDED = 23;
    private static final int ABSTRACT_METHOD_ADDED = 24;
    private static final int MORE_ACCESS = 25;
    private static final int STATIC_TURNED = 26;
    private static final int MEMBER_MADE_FINAL = 27;
    private static final int MEMBER_NO_MORE_FINAL = 28;
    private static final int METHOD_MADE_ABSTRACT = 29;
    private static final int METHOD_NO_MORE_ABSTRACT = 30;
    private static final int CONSTANT_CHANGED = 31;
    private static final int CONSTANT_LOST = 32;
    private static final int CONSTANT_WON = 33;
    private static final int LAST_CODE = 33;

    // A version is kept as one number, so that a number that reaches 1000 carries by itself.
    private static final int HIGHEST = 999;
    private static final int FIRST = 1000000;
    private static final int SECOND = 1000;

    private final Comparison comparison;
    private final Pattern pattern;
    private final RuleBook rules;
    private final Name name;
    private final Report report;
    private int released;

    public ReleaseDesk() {
        comparison = new Comparison();
        pattern = new Pattern();
        rules = new RuleBook();
        name = new Name();
        report = new Report();
        released = FIRST;
    }

    public boolean type(int build, int t, int flags, int above, int faces) {
        if (!isPlace(build, t)
                || !isWithin(flags, 0, PACKAGES * TYPE_MODES - 1)
                || !isWithin(above, -1, TYPES - 1)
                || !isWithin(faces, 0, (1 << TYPES) - 1)) {
            return false;
        }
        comparison.build(build).setType(t, flags, above, faces);
        return true;
    }

    public boolean drop(int build, int t) {
        if (!isTypeThere(build, t)) {
            return false;
        }
        comparison.build(build).dropType(t);
        return true;
    }

    public boolean member(int build, int t, boolean method, int sign, int mode) {
        if (!isTypeThere(build, t)
                || !isWithin(sign, 0, SIGNS - 1)
                || !isWithin(mode, 0, (PUBLIC + 1) * MEMBER_MODES - 1)) {
            return false;
        }
        comparison.build(build).setMember(t, slotOf(method, sign), mode);
        return true;
    }

    public boolean constant(int build, int t, int sign, double v) {
        if (!isMemberThere(build, t, false, sign)) {
            return false;
        }
        comparison.build(build).setConstant(t, sign, v);
        return true;
    }

    public boolean remove(int build, int t, boolean method, int sign) {
        if (!isMemberThere(build, t, method, sign)) {
            return false;
        }
        comparison.build(build).setMember(t, slotOf(method, sign), ABSENT);
        return true;
    }

    public int branch() {
        comparison.after.become(comparison.before);
        return comparison.after.countMembers();
    }

    public int letter(int c) {
        if (!isWithin(c, 33, 126)) {
            return REFUSED;
        }
        if (pattern.isFull()) {
            return FULL;
        }
        pattern.append((char) c);
        return pattern.length();
    }

    public int rule(int low, int high, int weight) {
        if (!isWithin(low, 1, LAST_CODE)
                || !isWithin(high, low, LAST_CODE)
                || !isWithin(weight, SILENT, BREAK)) {
            return REFUSED;
        }
        if (rules.isFull()) {
            return FULL;
        }
        rules.append(pattern, low, high, weight);
        pattern.empty();
        return rules.size();
    }

    public int clear() {
        int were = rules.size();
        rules.empty();
        pattern.empty();
        return were;
    }

    public boolean version(int first, int second, int third) {
        if (!isVersion(first, second, third)) {
            return false;
        }
        released = joined(first, second, third);
        return true;
    }

    public int list() {
        return changesNow().size();
    }

    public int change(int k, int what) {
        if (!isWithin(what, 0, 4)) {
            return REFUSED;
        }
        Listing changes = changesNow();
        if (!changes.has(k)) {
            return NONE;
        }
        int slot = changes.slot(k);
        switch (what) {
            case 0:
                return changes.code(k);
            case 1:
                return changes.weight(k);
            case 2:
                return changes.typeOf(k);
            case 3:
                return slot == NO_MEMBER ? 0 : isMethod(slot) ? 2 : 1;
            default:
                return slot == NO_MEMBER ? NONE : signOf(slot);
        }
    }

    public double shift(int k) {
        Listing changes = changesNow();
        if (!changes.has(k) || changes.code(k) != CONSTANT_CHANGED) {
            return 0;
        }
        return comparison.shiftOf(changes.typeOf(k), changes.slot(k));
    }

    public int report(boolean json, int k) {
        Listing changes = changesNow();
        report.start(k);
        if (json) {
            report.writeJson(changes, name, advised(changes));
        } else {
            report.writeLines(changes, name);
        }
        return k == -1 ? report.length() : report.found();
    }

    public int advice() {
        return advised(changesNow());
    }

    public int judge(int first, int second, int third) {
        if (!isVersion(first, second, third)) {
            return REFUSED;
        }
        Listing changes = changesNow();
        int wished = joined(first, second, third);
        int verdict = wished >= advised(changes) ? 0 : wished > released ? 1 : 2;
        if (changes.count(BREAK) > 0) {
            verdict += 4;
        }
        if (changes.count(WARNING) > 0) {
            verdict += 8;
        }
        return verdict;
    }

    public int fits(int build, int t, boolean method, int sign) {
        if (!isPlace(build, t) || !isWithin(sign, -1, SIGNS - 1)) {
            return REFUSED;
        }
        Build home = comparison.build(build);
        if (!home.isThere(t)) {
            return NONE;
        }
        name.spell(home.packageOf(t), t, sign == -1 ? NO_MEMBER : slotOf(method, sign));
        return pattern.matches(name) ? 1 : 0;
    }

    /** THE LIST as all stands now. */
    private Listing changesNow() {
        comparison.find();
        comparison.listing.weigh(rules, name);
        return comparison.listing;
    }

    private int advised(Listing changes) {
        boolean breaks = changes.count(BREAK) > 0;
        if (breaks && released >= FIRST) {
            return (released / FIRST + 1) * FIRST;
        }
        if (breaks || changes.hasAddition()) {
            return (released / SECOND + 1) * SECOND;
        }
        return released + 1;
    }

    private boolean isTypeThere(int build, int t) {
        return isPlace(build, t) && comparison.build(build).isThere(t);
    }

    private boolean isMemberThere(int build, int t, boolean method, int sign) {
        return isTypeThere(build, t)
                && isWithin(sign, 0, SIGNS - 1)
                && comparison.build(build).hasMember(t, slotOf(method, sign));
    }

    private static boolean isPlace(int build, int t) {
        return isWithin(build, OLD, NEW) && isWithin(t, 0, TYPES - 1);
    }

    private static boolean isVersion(int first, int second, int third) {
        return isWithin(first, 0, HIGHEST)
                && isWithin(second, 0, HIGHEST)
                && isWithin(third, 0, HIGHEST);
    }

    private static boolean isWithin(int number, int least, int most) {
        return number >= least && number <= most;
    }

    private static int joined(int first, int second, int third) {
        return first * FIRST + second * SECOND + third;
    }

    private static int slotOf(boolean method, int sign) {
        return method ? SIGNS + sign : sign;
    }

    private static boolean isMethod(int slot) {
        return slot >= SIGNS;
    }

    private static int signOf(int slot) {
        return slot % SIGNS;
    }

    private static int ownWeight(int code) {
        switch (code) {
            case TYPE_REMOVED:
            case TYPE_HIDDEN:
            case TYPE_MOVED:
            case TYPE_TURNED:
            case TYPE_MADE_ABSTRACT:
            case TYPE_MADE_FINAL:
            case ABOVE_LOST:
            case MEMBER_REMOVED:
            case LESS_ACCESS:
            case STATIC_TURNED:
            case MEMBER_MADE_FINAL:
            case METHOD_MADE_ABSTRACT:
                return BREAK;
            case ABSTRACT_METHOD_ADDED:
            case CONSTANT_CHANGED:
            case CONSTANT_LOST:
                return WARNING;
            case TYPE_ADDED:
            case ABOVE_WON:
            case MEMBER_ADDED:
            case MORE_ACCESS:
            case CONSTANT_WON:
                return NOTE;
            default:
                return SILENT;
        }
    }

    private static boolean isAddition(int code) {
        switch (code) {
            case TYPE_ADDED:
            case ABOVE_WON:
            case MEMBER_ADDED:
            case ABSTRACT_METHOD_ADDED:
            case MORE_ACCESS:
            case CONSTANT_WON:
                return true;
            default:
                return false;
        }
    }

    /** The types of one build with their members. Sets of types are numbers, type t their bit t. */
    private static final class Build {
        private int there;
        private final int[] packages = new int[TYPES];
        private final int[] flags = new int[TYPES];
        private final int[] parents = new int[TYPES];
        private final int[] modes = new int[TYPES * SLOTS];
        private final int[] valued = new int[TYPES];
        private final double[] constants = new double[TYPES * SIGNS];

        Build() {
            Arrays.fill(modes, ABSENT);
        }

        void setType(int t, int packageAndFlags, int above, int faces) {
            there |= 1 << t;
            packages[t] = packageAndFlags / TYPE_MODES;
            flags[t] = packageAndFlags % TYPE_MODES;
            parents[t] = above < 0 ? faces : faces | 1 << above;
        }

        void dropType(int t) {
            there &= ~(1 << t);
            for (int slot = 0; slot < SLOTS; slot++) {
                setMember(t, slot, ABSENT);
            }
        }

        void setMember(int t, int slot, int mode) {
            modes[t * SLOTS + slot] = mode;
            valued[t] &= ~(1 << slot);
        }

        void setConstant(int t, int sign, double v) {
            constants[t * SIGNS + sign] = v;
            valued[t] |= 1 << sign;
        }

        void become(Build other) {
            there = other.there;
            System.arraycopy(other.packages, 0, packages, 0, TYPES);
            System.arraycopy(other.flags, 0, flags, 0, TYPES);
            System.arraycopy(other.parents, 0, parents, 0, TYPES);
            System.arraycopy(other.modes, 0, modes, 0, TYPES * SLOTS);
            System.arraycopy(other.valued, 0, valued, 0, TYPES);
            System.arraycopy(other.constants, 0, constants, 0, TYPES * SIGNS);
        }

        int countMembers() {
            int count = 0;
            for (int i = 0; i < TYPES * SLOTS; i++) {
                if (modes[i] != ABSENT) {
                    count++;
                }
            }
            return count;
        }

        boolean isThere(int t) {
            return (there >> t & 1) == 1;
        }

        boolean isSeen(int t) {
            return (there >> t & 1) == 1 && (flags[t] & PUBLIC_TYPE) != 0;
        }

        int packageOf(int t) {
            return packages[t];
        }

        int flagsOf(int t) {
            return flags[t];
        }

        /** The types ABOVE type t. No way up is longer than there are types, so as many rounds do. */
        int above(int t) {
            int met = 1 << t;
            for (int round = 0; round < TYPES; round++) {
                for (int u = 0; u < TYPES; u++) {
                    if ((met >> u & 1) == 1) {
                        met |= parents[u] & there;
                    }
                }
            }
            return met & ~(1 << t);
        }

        int seenAbove(int t) {
            int seen = above(t);
            for (int u = 0; u < TYPES; u++) {
                if (!isSeen(u)) {
                    seen &= ~(1 << u);
                }
            }
            return seen;
        }

        boolean hasMember(int t, int slot) {
            return modes[t * SLOTS + slot] != ABSENT;
        }

        boolean isMemberSeen(int t, int slot) {
            if (!isSeen(t) || !hasMember(t, slot)) {
                return false;
            }
            int access = accessOf(t, slot);
            return access == PUBLIC || access == PROTECTED && (flags[t] & FINAL_TYPE) == 0;
        }

        int accessOf(int t, int slot) {
            return modes[t * SLOTS + slot] / MEMBER_MODES;
        }

        int memberFlags(int t, int slot) {
            return modes[t * SLOTS + slot] % MEMBER_MODES;
        }

        boolean hasConstant(int t, int sign) {
            return (valued[t] >> sign & 1) == 1;
        }

        double constantOf(int t, int sign) {
            return constants[t * SIGNS + sign];
        }
    }

    /** OLD and NEW, and what changed between them. */
    private static final class Comparison {
        final Build before = new Build();
        final Build after = new Build();
        final Listing listing = new Listing();

        Build build(int number) {
            return number == OLD ? before : after;
        }

        /** Leaves in the listing all changes, not weighed yet. */
        void find() {
            listing.empty();
            for (int t = 0; t < TYPES; t++) {
                if (before.isSeen(t) && after.isSeen(t)) {
                    compareType(t);
                    for (int slot = 0; slot < SLOTS; slot++) {
                        compareMember(t, slot);
                    }
                } else {
                    compareSight(t);
                }
            }
        }

        private void compareSight(int t) {
            if (before.isSeen(t)) {
                int code = after.isThere(t) ? TYPE_HIDDEN : TYPE_REMOVED;
                listing.append(code, before.packageOf(t), t, NO_MEMBER);
            } else if (after.isSeen(t)) {
                listing.append(TYPE_ADDED, after.packageOf(t), t, NO_MEMBER);
            }
        }

        private void compareType(int t) {
            int lost = before.flagsOf(t) & ~after.flagsOf(t);
            int won = after.flagsOf(t) & ~before.flagsOf(t);
            note(before.packageOf(t) != after.packageOf(t), TYPE_MOVED, t, NO_MEMBER);
            note(((lost | won) & INTERFACE_TYPE) != 0, TYPE_TURNED, t, NO_MEMBER);
            note((won & ABSTRACT_TYPE) != 0, TYPE_MADE_ABSTRACT, t, NO_MEMBER);
            note((lost & ABSTRACT_TYPE) != 0, TYPE_NO_MORE_ABSTRACT, t, NO_MEMBER);
            note((won & FINAL_TYPE) != 0, TYPE_MADE_FINAL, t, NO_MEMBER);
            note((lost & FINAL_TYPE) != 0, TYPE_NO_MORE_FINAL, t, NO_MEMBER);
            note((before.seenAbove(t) & ~after.above(t)) != 0, ABOVE_LOST, t, NO_MEMBER);
            note((after.seenAbove(t) & ~before.above(t)) != 0, ABOVE_WON, t, NO_MEMBER);
        }

        private void compareMember(int t, int slot) {
            boolean was = before.isMemberSeen(t, slot);
            boolean is = after.isMemberSeen(t, slot);
            if (was && is) {
                compareSeenMember(t, slot);
            } else if (was) {
                boolean there = after.hasMember(t, slot);
                boolean inherited = !there && isInherited(t, slot);
                note(!there && !inherited, MEMBER_REMOVED, t, slot);
                note(inherited, MEMBER_INHERITED, t, slot);
                note(there, LESS_ACCESS, t, slot);
            } else if (is) {
                boolean needed = isMethod(slot)
                        && (after.memberFlags(t, slot) & ABSTRACT_MEMBER) != 0;
                note(true, needed ? ABSTRACT_METHOD_ADDED : MEMBER_ADDED, t, slot);
            }
        }

        private boolean isInherited(int t, int slot) {
            int above = after.above(t);
            for (int u = 0; u < TYPES; u++) {
                if ((above >> u & 1) == 1
                        && after.isMemberSeen(u, slot)
                        && after.accessOf(u, slot) >= before.accessOf(t, slot)) {
                    return true;
                }
            }
            return false;
        }

        private void compareSeenMember(int t, int slot) {
            int accessWon = after.accessOf(t, slot) - before.accessOf(t, slot);
            int lost = before.memberFlags(t, slot) & ~after.memberFlags(t, slot);
            int won = after.memberFlags(t, slot) & ~before.memberFlags(t, slot);
            note(accessWon < 0, LESS_ACCESS, t, slot);
            note(accessWon > 0, MORE_ACCESS, t, slot);
            note(((lost | won) & STATIC_MEMBER) != 0, STATIC_TURNED, t, slot);
            note((won & FINAL_MEMBER) != 0, MEMBER_MADE_FINAL, t, slot);
            note((lost & FINAL_MEMBER) != 0, MEMBER_NO_MORE_FINAL, t, slot);
            if (isMethod(slot)) {
                note((won & ABSTRACT_MEMBER) != 0, METHOD_MADE_ABSTRACT, t, slot);
                note((lost & ABSTRACT_MEMBER) != 0, METHOD_NO_MORE_ABSTRACT, t, slot);
            } else {
                boolean had = before.hasConstant(t, slot);
                boolean has = after.hasConstant(t, slot);
                note(had && has && areConstantsDifferent(t, slot), CONSTANT_CHANGED, t, slot);
                note(had && !has, CONSTANT_LOST, t, slot);
                note(!had && has, CONSTANT_WON, t, slot);
            }
        }

        // Java holds a NaN for different from itself, but a constant that stays one is the same.
        private boolean areConstantsDifferent(int t, int sign) {
            double was = before.constantOf(t, sign);
            double is = after.constantOf(t, sign);
            return was != is && (was == was || is == is);
        }

        /** For two different constants. A NaN is handed on, as no subtraction may answer one. */
        double shiftOf(int t, int sign) {
            double was = before.constantOf(t, sign);
            double is = after.constantOf(t, sign);
            if (was != was) {
                return was;
            }
            if (is != is) {
                return is;
            }
            return is - was;
        }

        private void note(boolean applies, int code, int t, int slot) {
            if (applies) {
                listing.append(code, before.packageOf(t), t, slot);
            }
        }
    }

    /**
     * THE LIST. A row is one number: from its highest bits down by how much it is lighter than a
     * BREAK, the package, the type, the place of the member among the names in its type, the code,
     * and the slot plus 1. So rising rows are the LIST in its order, for the changes of one name
     * are found by rising codes.
     */
    private static final class Listing {
        // The lowest bit of each part but the slot, which has the lowest of all.
        private static final int CODE_AT = 5;
        private static final int PLACE_AT = 11;
        private static final int TYPE_AT = 16;
        private static final int PACKAGE_AT = 19;
        private static final int LIGHTNESS_AT = 21;

        private final int[] rows = new int[MOST_CHANGES];
        private int size;

        void empty() {
            size = 0;
        }

        int size() {
            return size;
        }

        boolean has(int k) {
            return k >= 0 && k < size;
        }

        void append(int code, int packageNumber, int t, int slot) {
            if (size < MOST_CHANGES) {
                rows[size] = packageNumber << PACKAGE_AT | t << TYPE_AT | code << CODE_AT | slot + 1;
                size++;
            }
        }

        // The type's own name ends first. Behind the same letter ( comes before :, methods end in an
        // order that is that of their signs, and fields begin :d, :i and :l for signs 2, 0 and 1.
        private static int placeOf(int slot) {
            if (slot == NO_MEMBER) {
                return 0;
            }
            int sign = signOf(slot);
            int end = isMethod(slot) ? sign % 3 : 3 + (sign + 1) % 3;
            return 1 + sign / 3 * 6 + end;
        }

        /** Makes THE LIST of the changes found. No row is written before it has been read. */
        void weigh(RuleBook rules, Name name) {
            int found = size;
            size = 0;
            for (int k = 0; k < found; k++) {
                spell(k, name);
                int weight = rules.weigh(code(k), name);
                if (weight > SILENT) {
                    int lightness = BREAK - weight;
                    insert(rows[k] | lightness << LIGHTNESS_AT | placeOf(slot(k)) << PLACE_AT);
                }
            }
        }

        private void insert(int row) {
            int at = size;
            while (at > 0 && rows[at - 1] > row) {
                rows[at] = rows[at - 1];
                at--;
            }
            rows[at] = row;
            size++;
        }

        void spell(int k, Name name) {
            name.spell(rows[k] >> PACKAGE_AT & 3, typeOf(k), slot(k));
        }

        int code(int k) {
            return rows[k] >> CODE_AT & 63;
        }

        int weight(int k) {
            return BREAK - (rows[k] >> LIGHTNESS_AT);
        }

        int typeOf(int k) {
            return rows[k] >> TYPE_AT & 7;
        }

        int slot(int k) {
            return (rows[k] & 31) - 1;
        }

        int count(int weight) {
            int count = 0;
            for (int k = 0; k < size; k++) {
                if (weight(k) == weight) {
                    count++;
                }
            }
            return count;
        }

        boolean hasAddition() {
            for (int k = 0; k < size; k++) {
                if (isAddition(code(k))) {
                    return true;
                }
            }
            return false;
        }
    }

    /** The NAME of a type or a member, spelt anew for each use. */
    private static final class Name {
        private final char[] letters = new char[LONGEST_NAME];
        private int length;

        void spell(int packageNumber, int t, int slot) {
            length = 0;
            put((char) ('a' + packageNumber));
            put('.');
            put((char) ('A' + t));
            if (slot != NO_MEMBER) {
                put('.');
                put((char) ('a' + signOf(slot) / 3));
                String end = isMethod(slot) ? methodEnd(signOf(slot)) : fieldEnd(signOf(slot));
                for (int i = 0; i < end.length(); i++) {
                    put(end.charAt(i));
                }
            }
        }

        private void put(char letter) {
            if (length < LONGEST_NAME) {
                letters[length] = letter;
                length++;
            }
        }

        private static String fieldEnd(int sign) {
            switch (sign % 3) {
                case 0:
                    return ":int";
                case 1:
                    return ":long";
                default:
                    return ":double";
            }
        }

        private static String methodEnd(int sign) {
            switch (sign % 3) {
                case 0:
                    return "()";
                case 1:
                    return "(int)";
                default:
                    return "(int,long)";
            }
        }

        int length() {
            return length;
        }

        char at(int i) {
            return letters[i];
        }

        /** Bit i of the answer tells whether this letter is character i. */
        int placesOf(char letter) {
            int places = 0;
            for (int i = 0; i < length; i++) {
                if (letters[i] == letter) {
                    places |= 1 << i;
                }
            }
            return places;
        }
    }

    /** A PATTERN. */
    private static final class Pattern {
        private final char[] letters = new char[LETTERS];
        private int length;

        int length() {
            return length;
        }

        boolean isFull() {
            return length == LETTERS;
        }

        void append(char letter) {
            if (length < LETTERS) {
                letters[length] = letter;
                length++;
            }
        }

        void empty() {
            length = 0;
        }

        void become(Pattern other) {
            length = other.length;
            System.arraycopy(other.letters, 0, letters, 0, LETTERS);
        }

        /** Follows all ways to fit at once: many * would make it long to try one after the other. */
        boolean matches(Name name) {
            // Bit i: the letters so far fit the first i characters. Bits beyond the name's end may
            // be set too, but none ever comes down again.
            int fitted = 1;
            for (int i = 0; i < length; i++) {
                if (letters[i] == '*') {
                    fitted |= -fitted;
                } else if (letters[i] == '?') {
                    fitted <<= 1;
                } else {
                    fitted = (fitted & name.placesOf(letters[i])) << 1;
                }
            }
            return (fitted >> name.length() & 1) == 1;
        }
    }

    /** One of the RULES. */
    private static final class Rule {
        private final Pattern pattern = new Pattern();
        private int low;
        private int high;
        private int weight;

        void become(Pattern newPattern, int newLow, int newHigh, int newWeight) {
            pattern.become(newPattern);
            low = newLow;
            high = newHigh;
            weight = newWeight;
        }

        boolean applies(int code, Name name) {
            return code >= low && code <= high && pattern.matches(name);
        }

        int weight() {
            return weight;
        }
    }

    /** The RULES, in rows that are used again. */
    private static final class RuleBook {
        private final Rule[] rows = new Rule[RULES];
        private int size;

        RuleBook() {
            for (int i = 0; i < RULES; i++) {
                rows[i] = new Rule();
            }
        }

        int size() {
            return size;
        }

        boolean isFull() {
            return size == RULES;
        }

        void append(Pattern pattern, int low, int high, int weight) {
            if (size < RULES) {
                rows[size].become(pattern, low, high, weight);
                size++;
            }
        }

        void empty() {
            size = 0;
        }

        int weigh(int code, Name name) {
            for (int i = size - 1; i >= 0; i--) {
                if (rows[i].applies(code, name)) {
                    return rows[i].weight();
                }
            }
            return ownWeight(code);
        }
    }

    /** THE REPORT, of which only its length and the one wanted character are kept. */
    private static final class Report {
        private int wanted;
        private int length;
        private int found;

        void start(int k) {
            wanted = k;
            length = 0;
            found = NONE;
        }

        int length() {
            return length;
        }

        int found() {
            return found;
        }

        void writeLines(Listing changes, Name name) {
            for (int k = 0; k < changes.size(); k++) {
                put(sortOf(changes.weight(k)));
                put(' ');
                changes.spell(k, name);
                putName(name);
                put(' ');
                putNumber(changes.code(k));
                put('\n');
            }
            putNumber(changes.count(BREAK));
            put(' ');
            putNumber(changes.count(WARNING));
            put(' ');
            putNumber(changes.count(NOTE));
        }

        void writeJson(Listing changes, Name name, int advised) {
            putText("{\"changes\":[");
            for (int k = 0; k < changes.size(); k++) {
                putText(k == 0 ? "{\"w\":" : ",{\"w\":");
                putNumber(changes.weight(k));
                putText(",\"n\":\"");
                changes.spell(k, name);
                putName(name);
                putText("\",\"c\":");
                putNumber(changes.code(k));
                put('}');
            }
            putText("],\"advice\":\"");
            putNumber(advised / FIRST);
            put('.');
            putNumber(advised / SECOND % 1000);
            put('.');
            putNumber(advised % SECOND);
            putText("\"}");
        }

        private static char sortOf(int weight) {
            return weight == BREAK ? 'B' : weight == WARNING ? 'W' : 'N';
        }

        private void put(char letter) {
            if (length == wanted) {
                found = letter;
            }
            length++;
        }

        private void putText(String text) {
            for (int i = 0; i < text.length(); i++) {
                put(text.charAt(i));
            }
        }

        private void putName(Name name) {
            for (int i = 0; i < name.length(); i++) {
                put(name.at(i));
            }
        }

        // No number of a report has more than four digits.
        private void putNumber(int number) {
            for (int unit = 1000; unit > 0; unit /= 10) {
                if (number >= unit || unit == 1) {
                    put((char) ('0' + number / unit % 10));
                }
            }
        }
    }
}
