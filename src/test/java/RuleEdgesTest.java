/** Promise 9 with what RULES are under 'Terms', each of its words that name a boundary. */
final class RuleEdgesTest {
    private static final String PROMISE = "Promise 9";
    private static final String TERMS = "Promise 9, Terms";

    public static void main(String[] args) {
        Check check = new Check();
        codes(check);
        lowNotAboveHigh(check);
        weights(check);
        countsToEight(check);
        refusedWithAPattern(check);
        full(check);
        patternIsEmptyThen(check);
        lowToHigh(check);
        lastRule(check);
        inPlaceOfItsOwn(check);
        firstAndEighthRule(check);
        nameOfTheMember(check);
        nameOfTheType(check);
        nameInOld(check);
        nameInNew(check);
        emptyPattern(check);
        longestPattern(check);
        check.end();
    }

    private static void refused(Check check, int low, int high, int weight) {
        Unchanged.by(check, "rule(" + low + ", " + high + ", " + weight + ")", ReleaseDesk.REFUSED,
            desk -> desk.rule(low, high, weight));
    }

    private static void codes(Check check) {
        check.about(PROMISE, "for CODES low to high (1 to 33 each");
        int[][] right = {{1, 1}, {1, 33}, {33, 33}, {1, 2}, {32, 33}, {12, 19}};
        for (int[] r : right) {
            check.same("rule(" + r[0] + ", " + r[1] + ")", new ReleaseDesk().rule(r[0], r[1], 1), 1);
        }
        for (int wrong : Told.outside(1, 33)) {
            refused(check, wrong, 33, 1);
            refused(check, 1, wrong, 1);
            refused(check, wrong, wrong, 1);
        }
    }

    private static void lowNotAboveHigh(Check check) {
        check.about(PROMISE, "low not above high)");
        for (int code = 1; code <= 33; code++) {
            check.same("low and high " + code, new ReleaseDesk().rule(code, code, 1), 1);
        }
        for (int code = 1; code < 33; code++) {
            check.same("low just below high", new ReleaseDesk().rule(code, code + 1, 1), 1);
            check.same("low just above high", new ReleaseDesk().rule(code + 1, code, 1),
                ReleaseDesk.REFUSED);
        }
        refused(check, 2, 1, 1);
        refused(check, 33, 32, 1);
        refused(check, 33, 1, 1);
    }

    private static void weights(Check check) {
        check.about(PROMISE, "with a WEIGHT");
        for (int weight = 0; weight <= 3; weight++) {
            check.same("weight " + weight, new ReleaseDesk().rule(1, 33, weight), 1);
        }
        for (int wrong : Told.outside(0, 3)) {
            refused(check, 1, 33, wrong);
        }
    }

    private static void countsToEight(Check check) {
        check.about(PROMISE, "how many there are");
        ReleaseDesk desk = new ReleaseDesk();
        for (int k = 1; k <= 8; k++) {
            check.same("rule " + k, desk.rule(1, 33, k % 4), k);
        }
        check.same("all of them", desk.clear(), 8);
    }

    private static void refusedWithAPattern(Check check) {
        check.about(PROMISE, "REFUSED if a number is not as said (the PATTERN stays)");
        ReleaseDesk desk = new ReleaseDesk();
        desk.type(0, 0, 1, -1, 0);
        Told.spell(desk, "a.A");
        check.same("rule(0, 1, 1)", desk.rule(0, 1, 1), ReleaseDesk.REFUSED);
        check.same("rule(1, 34, 1)", desk.rule(1, 34, 1), ReleaseDesk.REFUSED);
        check.same("rule(1, 1, 4)", desk.rule(1, 1, 4), ReleaseDesk.REFUSED);
        check.same("rule(2, 1, 0)", desk.rule(2, 1, 0), ReleaseDesk.REFUSED);
        check.same("fits", desk.fits(0, 0, Mode.METHOD, -1), 1);
        check.same("no rule has come", desk.clear(), 0);
        Told.spell(desk, "a.A");
        desk.rule(1, 1, -1);
        check.same("its letters", desk.letter('*'), 4);
        check.same("it is the rule's then", desk.rule(1, 1, 0), 1);
        check.same("which silences", desk.list(), 0);
    }

    private static void eight(ReleaseDesk desk) {
        desk.type(0, 0, 1, -1, 0);
        for (int k = 0; k < 8; k++) {
            Told.rule(desk, "*", 1, 1 + k, 1);
        }
    }

    private static void full(Check check) {
        check.about(PROMISE, "FULL if there are 8");
        Calls withoutPattern = RuleEdgesTest::eight;
        Calls withPattern = desk -> {
            eight(desk);
            Told.spell(desk, "a.*");
        };
        for (int weight = 0; weight <= 3; weight++) {
            int given = weight;
            Unchanged.after(withoutPattern, check, "a ninth rule", ReleaseDesk.FULL,
                desk -> desk.rule(1, 33, given));
            Unchanged.after(withPattern, check, "a ninth rule with a pattern", ReleaseDesk.FULL,
                desk -> desk.rule(1, 33, given));
        }
        ReleaseDesk desk = new ReleaseDesk();
        eight(desk);
        check.same("a ninth", desk.rule(1, 33, 3), ReleaseDesk.FULL);
        check.same("and again", desk.rule(1, 33, 3), ReleaseDesk.FULL);
        check.same("there are eight", desk.clear(), 8);
        check.same("then there is room", desk.rule(1, 33, 3), 1);
    }

    private static void patternIsEmptyThen(Check check) {
        check.about(PROMISE, "A RULE with the PATTERN, which is empty then");
        ReleaseDesk desk = new ReleaseDesk();
        desk.type(0, 0, 1, -1, 0);
        Told.spell(desk, "*");
        check.same("fits before", desk.fits(0, 0, Mode.METHOD, -1), 1);
        desk.rule(1, 1, 2);
        check.same("fits after", desk.fits(0, 0, Mode.METHOD, -1), 0);
        check.same("a rule without a pattern of its own", desk.rule(1, 1, 0), 2);
        check.same("fits nothing", desk.change(0, 1), 2);
        check.same("a letter then", desk.letter('x'), 1);
        check.same("is not one of the rule's", desk.change(0, 1), 2);
        for (int k = 2; k <= 12; k++) {
            check.same("letter " + k, desk.letter('x'), k);
        }
    }

    private static void lowToHigh(Check check) {
        check.about(TERMS, "CODES from low to high");
        for (int code : Single.CODES) {
            int[][] with = {{code, code}, {1, code}, {code, 33}, {1, 33}};
            for (int[] w : with) {
                ReleaseDesk desk = Single.desk(code);
                Told.rule(desk, "*", w[0], w[1], 2);
                check.same("code " + code + " by " + w[0] + " to " + w[1], desk.change(0, 1), 2);
                Told.rule(desk, "*", w[0], w[1], 3);
                check.same("code " + code + " by " + w[0] + " to " + w[1], desk.change(0, 1), 3);
            }
            ReleaseDesk desk = Single.desk(code);
            Told.rule(desk, "*", code, code, 3);
            if (code > 1) {
                Told.rule(desk, "*", 1, code - 1, 1);
            }
            if (code < 33) {
                Told.rule(desk, "*", code + 1, 33, 1);
            }
            check.same("code " + code + " by those beside it", desk.change(0, 1), 3);
        }
    }

    private static void lastRule(Check check) {
        check.about(TERMS, "The last RULE whose CODES have that of a CHANGE, and whose PATTERN fits");
        ReleaseDesk desk = Single.desk(20);
        Told.rule(desk, "*", 20, 20, 1);
        Told.rule(desk, "a.A.a()", 1, 33, 2);
        check.same("the later of two", desk.change(0, 1), 2);
        Told.rule(desk, "*", 21, 33, 3);
        check.same("one of other codes comes after it", desk.change(0, 1), 2);
        Told.rule(desk, "a.A", 20, 20, 3);
        check.same("one with another pattern comes after it", desk.change(0, 1), 2);
        Told.rule(desk, "*", 20, 20, 1);
        check.same("a lighter one comes after it", desk.change(0, 1), 1);
        Told.rule(desk, "*", 20, 20, 3);
        check.same("a heavier one comes after it", desk.change(0, 1), 3);
        Told.rule(desk, "*", 20, 20, 0);
        check.same("a silent one comes after it", desk.list(), 0);
    }

    private static void inPlaceOfItsOwn(Check check) {
        check.about(TERMS, "gives its WEIGHT in place of its own");
        for (int code : Single.CODES) {
            for (int weight = 0; weight <= 3; weight++) {
                ReleaseDesk desk = Single.desk(code);
                Told.rule(desk, Single.name(code), code, code, weight);
                check.same("code " + code, desk.list(), weight > 0 ? 1 : 0);
                check.same("its weight", desk.change(0, 1), weight > 0 ? weight : ReleaseDesk.NONE);
            }
        }
    }

    private static void firstAndEighthRule(Check check) {
        check.about(TERMS, "RULES are a row, at most 8");
        for (int which = 1; which <= 8; which++) {
            ReleaseDesk desk = Single.desk(1);
            for (int k = 1; k <= 8; k++) {
                check.same("rule " + k, Told.rule(desk, k == which ? "a.A" : "a.B", 1, 1, 1), k);
            }
            check.same("only rule " + which + " fits", desk.change(0, 1), 1);
        }
    }

    private static void nameOfTheMember(Check check) {
        check.about(TERMS, "whose PATTERN fits its NAME (that of the MEMBER");
        ReleaseDesk desk = Single.desk(20);
        Told.rule(desk, "a.A", 1, 33, 1);
        check.same("the type's name", desk.change(0, 1), 3);
        Told.rule(desk, "a.A.a:int", 1, 33, 1);
        check.same("the name of a field of its sign", desk.change(0, 1), 3);
        Told.rule(desk, "a.A.a(int)", 1, 33, 1);
        check.same("the name of the next sign", desk.change(0, 1), 3);
        Told.rule(desk, "a.A.a()", 1, 33, 1);
        check.same("its name", desk.change(0, 1), 1);
    }

    private static void nameOfTheType(Check check) {
        check.about(TERMS, "or of the TYPE without one");
        ReleaseDesk desk = Single.desk(8);
        Told.rule(desk, "a.A.*", 1, 33, 1);
        check.same("names of its members", desk.change(0, 1), 3);
        Told.rule(desk, "a.B", 1, 33, 1);
        check.same("the name of the next type", desk.change(0, 1), 3);
        Told.rule(desk, "a.A", 1, 33, 1);
        check.same("its name", desk.change(0, 1), 1);
    }

    private static void nameInOld(Check check) {
        check.about(TERMS, "as it is in OLD");
        int hidden = Mode.PACKAGE_C;
        int moved = Mode.PACKAGE_C | Mode.PUBLIC_TYPE;
        for (int flags : new int[] {hidden, moved}) {
            ReleaseDesk desk = Single.types(Mode.PUBLIC_TYPE | Mode.PACKAGE_B, flags);
            desk.member(0, 0, Mode.METHOD, 0, Mode.PUBLIC);
            desk.branch();
            desk.type(1, 0, flags, -1, 0);
            desk.member(1, 0, Mode.METHOD, 0, Mode.PROTECTED);
            desk.member(1, 0, Mode.METHOD, 1, Mode.PUBLIC);
            Told.rule(desk, "c.*", 1, 33, 0);
            String due = flags == hidden ? "B b.A 2\n1 0 0"
                : "B b.A 4\nB b.A.a() 22\nN b.A.a(int) 23\n2 0 1";
            check.text("not the package in NEW", Told.lines(desk), due);
            Told.rule(desk, "b.*", 1, 33, 0);
            check.same("but the one in OLD", desk.list(), 0);
        }
    }

    private static void nameInNew(Check check) {
        check.about(TERMS, "for CODE 3 in NEW");
        ReleaseDesk desk = Single.types(Mode.PACKAGE_B, Mode.PACKAGE_C | Mode.PUBLIC_TYPE);
        Told.rule(desk, "b.A", 3, 3, 3);
        check.text("not the package in OLD", Told.lines(desk), "N c.A 3\n0 0 1");
        Told.rule(desk, "c.A", 3, 3, 3);
        check.text("but the one in NEW", Told.lines(desk), "B c.A 3\n1 0 0");
    }

    private static void emptyPattern(Check check) {
        check.about(TERMS, "a PATTERN (a text)");
        for (int code : Single.CODES) {
            ReleaseDesk desk = Single.desk(code);
            Told.rule(desk, "*", 1, 33, 2);
            check.same("a rule with the empty text", desk.rule(1, 33, 0), 2);
            check.same("fits no name", desk.change(0, 1), 2);
        }
    }

    private static void longestPattern(Check check) {
        check.about(TERMS, "a PATTERN (a text)");
        ReleaseDesk desk = Mode.deskWithType();
        desk.member(0, 0, Mode.METHOD, 2, Mode.PUBLIC);
        Told.rule(desk, "a.A.a(int,l*", 20, 20, 1);
        check.same("twelve letters", desk.change(0, 1), 1);
        Told.rule(desk, "a.A.a(int,l?", 20, 20, 2);
        check.same("the last one counts", desk.change(0, 1), 1);
    }
}
