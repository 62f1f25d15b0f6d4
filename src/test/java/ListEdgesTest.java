/** Promise 12 with THE LIST under 'Terms', each of its words that name a boundary. */
final class ListEdgesTest {
    private static final String PROMISE = "Promise 12";
    private static final String TERMS = "Promise 12, Terms";
    private static final String BY_NAMES = "those with the same WEIGHT by their NAMES"
        + " (character by character; one that ends first comes first)";
    private static final String[] ENDS = {"()", "(int)", "(int,long)", ":double", ":int", ":long"};

    public static void main(String[] args) {
        Check check = new Check();
        empty(check);
        countsEach(check);
        longList(check);
        fullest(check);
        asAllStandsNow(check);
        weightAboveNone(check);
        heaviestFirst(check);
        heavierWhateverItsName(check);
        byPackages(check);
        byTypes(check);
        packageBeforeType(check);
        endsFirst(check);
        byEndsOfMembers(check);
        byLettersOfMembers(check);
        asFound(check);
        changesNothing(check);
        check.end();
    }

    private static void empty(Check check) {
        check.about(PROMISE, "How many CHANGES the LIST has");
        check.same("of a new desk", new ReleaseDesk().list(), 0);
        ReleaseDesk desk = new ReleaseDesk();
        desk.type(0, 0, 1, -1, 0);
        desk.member(0, 0, Mode.METHOD, 0, Mode.PUBLIC);
        desk.branch();
        check.same("of builds that are the same", desk.list(), 0);
        check.same("of hidden types", Single.types(0, 46).list(), 0);
    }

    private static void countsEach(Check check) {
        check.about(PROMISE, "How many CHANGES the LIST has");
        ReleaseDesk desk = new ReleaseDesk();
        for (int t = 0; t < 8; t++) {
            desk.type(0, t, 1, -1, 0);
            check.same("types gone", desk.list(), t + 1);
        }
        desk.branch();
        for (int sign = 0; sign < 12; sign++) {
            desk.member(1, 7, Mode.METHOD, sign, Mode.PUBLIC);
            check.same("methods come", desk.list(), sign + 1);
        }
        for (int sign = 0; sign < 12; sign++) {
            desk.member(0, 7, Mode.FIELD, sign, Mode.PUBLIC);
            check.same("fields gone", desk.list(), sign + 13);
        }
    }

    /** All types and members twice, which 512 calls can do, with changes of one weight alone. */
    private static void longList(Check check) {
        check.about(PROMISE, "How many CHANGES the LIST has");
        ReleaseDesk desk = new ReleaseDesk();
        for (int t = 0; t < 8; t++) {
            desk.type(0, t, 1, (t + 1) % 8, 0);
            for (int sign = 0; sign < 12; sign++) {
                desk.member(0, t, Mode.FIELD, sign, Mode.PUBLIC);
                desk.member(0, t, Mode.METHOD, sign, Mode.PUBLIC);
            }
        }
        desk.branch();
        for (int t = 0; t < 8; t++) {
            desk.type(1, t, 7 + Mode.PACKAGE_B, -1, 0);
            for (int sign = 0; sign < 12; sign++) {
                desk.member(1, t, Mode.FIELD, sign, Mode.PROTECTED | 7);
                desk.member(1, t, Mode.METHOD, sign, Mode.PROTECTED | 7);
            }
        }
        // A type is moved, turned, made abstract and has lost one above; a field has three changes, a
        // method four.
        int most = 8 * (4 + 12 * 3 + 12 * 4);
        check.same("of each type and member", desk.list(), most);
        check.same("the first code", desk.change(0, 0), 4);
        check.same("the last code", desk.change(most - 1, 0), 27);
        check.same("the last type", desk.change(most - 1, 2), 7);
        check.same("the last kind", desk.change(most - 1, 3), 1);
        check.same("the last sign", desk.change(most - 1, 4), 10);
        check.same("one behind it", desk.change(most, 0), ReleaseDesk.NONE);
        for (int t = 0; t < 8; t++) {
            int first = most / 8 * t;
            check.same("the first type of " + t, desk.change(first, 2), t);
            check.same("its kind", desk.change(first, 3), 0);
            check.same("its last code", desk.change(first + 3, 0), 10);
            check.same("the member behind it", desk.change(first + 4, 3), 2);
        }
    }

    private static void fullest(Check check) {
        check.about(PROMISE, "How many CHANGES the LIST has");
        ReleaseDesk desk = Fullest.desk();
        int most = Fullest.CHANGES;
        int breaks = Fullest.BREAKS;
        int notLight = breaks + Fullest.WARNINGS;
        check.same("with all that there can be", desk.list(), most);
        check.same("the first code", desk.change(0, 0), 4);
        check.same("the weight of the last break", desk.change(breaks - 1, 1), 3);
        check.same("of the first warning", desk.change(breaks, 1), 2);
        check.same("of the last one", desk.change(notLight - 1, 1), 2);
        check.same("of the first note", desk.change(notLight, 1), 1);
        check.same("the code of it", desk.change(notLight, 0), 11);
        check.same("the last code", desk.change(most - 1, 0), 25);
        check.same("the last type", desk.change(most - 1, 2), 7);
        check.same("the last kind", desk.change(most - 1, 3), 1);
        check.same("the last sign", desk.change(most - 1, 4), 10);
        check.same("one behind it", desk.change(most, 0), ReleaseDesk.NONE);
    }

    private static void asAllStandsNow(Check check) {
        check.about(PROMISE, "as all stands now");
        ReleaseDesk desk = new ReleaseDesk();
        check.same("nothing", desk.list(), 0);
        desk.type(0, 0, 1, -1, 0);
        check.same("after type in OLD", desk.list(), 1);
        desk.type(1, 0, 1, -1, 0);
        check.same("after type in NEW", desk.list(), 0);
        desk.member(1, 0, Mode.FIELD, 0, Mode.PUBLIC);
        check.same("after member in NEW", desk.list(), 1);
        desk.member(0, 0, Mode.FIELD, 0, Mode.PUBLIC);
        check.same("after member in OLD", desk.list(), 0);
        desk.constant(0, 0, 0, 1);
        check.same("after constant in OLD", desk.list(), 1);
        desk.constant(1, 0, 0, 1);
        check.same("after constant in NEW", desk.list(), 0);
        desk.remove(1, 0, Mode.FIELD, 0);
        check.same("after remove in NEW", desk.list(), 1);
        desk.remove(0, 0, Mode.FIELD, 0);
        check.same("after remove in OLD", desk.list(), 0);
        desk.drop(1, 0);
        check.same("after drop in NEW", desk.list(), 1);
        Told.rule(desk, "a.A", 1, 1, 0);
        check.same("after rule", desk.list(), 0);
        desk.clear();
        check.same("after clear", desk.list(), 1);
        desk.branch();
        check.same("after branch", desk.list(), 0);
        desk.drop(0, 0);
        check.same("after drop in OLD", desk.list(), 1);
    }

    private static void weightAboveNone(Check check) {
        check.about(TERMS, "THE LIST has all CHANGES with a WEIGHT above 0");
        for (int code : Single.CODES) {
            ReleaseDesk desk = Single.desk(code);
            Told.rule(desk, "*", code, code, 0);
            check.same("code " + code + " with 0", desk.list(), 0);
            Told.rule(desk, "*", code, code, 1);
            check.same("code " + code + " with 1", desk.list(), 1);
        }
        ReleaseDesk desk = new ReleaseDesk();
        for (int t = 0; t < 8; t++) {
            desk.type(0, t, 1, -1, 0);
        }
        Told.rule(desk, "a.?", 1, 1, 0);
        check.same("all silent", desk.list(), 0);
        Told.rule(desk, "a.H", 1, 1, 1);
        check.same("all but one", desk.list(), 1);
        check.same("the one", desk.change(0, 2), 7);
    }

    private static void heaviestFirst(Check check) {
        check.about(TERMS, "the heaviest first");
        int[][] orders = {{1, 2, 3}, {1, 3, 2}, {2, 1, 3}, {2, 3, 1}, {3, 1, 2}, {3, 2, 1}};
        for (int[] weights : orders) {
            ReleaseDesk desk = new ReleaseDesk();
            for (int t = 0; t < 3; t++) {
                desk.type(0, t, 1, -1, 0);
                Told.rule(desk, "a." + "ABC".charAt(t), 1, 1, weights[t]);
            }
            for (int k = 0; k < 3; k++) {
                check.same("the weight of change " + k, desk.change(k, 1), 3 - k);
                check.same("of the type with it", weights[desk.change(k, 2)], 3 - k);
            }
        }
    }

    private static void heavierWhateverItsName(Check check) {
        check.about(TERMS, "the heaviest first, those with the same WEIGHT by their NAMES");
        for (int weight = 1; weight < 3; weight++) {
            ReleaseDesk desk = Mode.deskWithType();
            desk.type(1, 1, 1, -1, 0);
            desk.type(0, 7, 1 + 32, -1, 0);
            desk.type(1, 7, 1 + 32, -1, 0);
            desk.member(0, 7, Mode.FIELD, 10, Mode.PUBLIC);
            desk.member(1, 0, Mode.METHOD, 0, Mode.PUBLIC);
            Told.rule(desk, "*", 1, 33, weight);
            Told.rule(desk, "c.H.d:long", 1, 33, weight + 1);
            String light = "NW".substring(weight - 1, weight);
            check.text("the last of all names", Told.lines(desk), "WB".charAt(weight - 1)
                + " c.H.d:long 20\n" + light + " a.A.a() 23\n" + light + " a.B 3\n"
                + (weight == 1 ? "0 1 2" : "1 2 0"));
        }
    }

    private static void byPackages(Check check) {
        check.about(TERMS, BY_NAMES);
        int[][] orders = {{0, 1, 2}, {0, 2, 1}, {1, 0, 2}, {1, 2, 0}, {2, 0, 1}, {2, 1, 0}};
        for (int[] packages : orders) {
            ReleaseDesk desk = new ReleaseDesk();
            for (int t = 0; t < 3; t++) {
                desk.type(0, t, 16 * packages[t] + 1, -1, 0);
            }
            for (int k = 0; k < 3; k++) {
                check.same("the package of change " + k, packages[desk.change(k, 2)], k);
            }
        }
    }

    private static void byTypes(Check check) {
        check.about(TERMS, BY_NAMES);
        ReleaseDesk desk = new ReleaseDesk();
        for (int t = 7; t >= 0; t--) {
            desk.type(0, t, 1 + 16, -1, 0);
        }
        for (int k = 0; k < 8; k++) {
            check.same("the type of change " + k, desk.change(k, 2), k);
        }
    }

    private static void packageBeforeType(Check check) {
        check.about(TERMS, BY_NAMES);
        ReleaseDesk desk = new ReleaseDesk();
        desk.type(0, 0, 1 + 16, -1, 0);
        desk.type(0, 7, 1, -1, 0);
        desk.branch();
        desk.member(0, 0, Mode.METHOD, 0, Mode.PUBLIC);
        desk.type(1, 0, 5 + 16, -1, 0);
        desk.member(0, 7, Mode.FIELD, 10, Mode.PUBLIC);
        desk.type(1, 7, 5, -1, 0);
        check.text("the first package is that of the last type", Told.lines(desk),
            "B a.H 6\nB a.H.d:long 20\nB b.A 6\nB b.A.a() 20\n4 0 0");
        desk = new ReleaseDesk();
        desk.type(0, 0, 1, -1, 0);
        desk.type(0, 3, 1 + 16, -1, 0);
        desk.type(1, 0, 1 + 32, -1, 0);
        desk.type(1, 3, 1, -1, 0);
        check.text("a moved one has its place by OLD", Told.lines(desk), "B a.A 4\nB b.D 4\n2 0 0");
        desk = new ReleaseDesk();
        desk.type(0, 0, 0, -1, 0);
        desk.type(1, 0, 1 + 32, -1, 0);
        desk.type(0, 3, 32, -1, 0);
        desk.type(1, 3, 1, -1, 0);
        check.text("an added one by NEW", Told.lines(desk), "N a.D 3\nN c.A 3\n0 0 2");
    }

    private static void endsFirst(Check check) {
        check.about(TERMS, "one that ends first comes first");
        for (int t = 0; t < 8; t++) {
            for (boolean method : new boolean[] {Mode.FIELD, Mode.METHOD}) {
                for (int sign = 0; sign < 12; sign++) {
                    ReleaseDesk desk = new ReleaseDesk();
                    desk.type(0, t, 1, -1, 0);
                    desk.type(1, t, 5, -1, 0);
                    desk.member(0, t, method, sign, Mode.PUBLIC);
                    Told.rule(desk, "*", 6, 6, 1);
                    Told.rule(desk, "*", 20, 20, 1);
                    check.text("a type and its member " + sign, Told.codes(desk), "6 20");
                }
            }
        }
    }

    /** A desk whose type 2 has lost two members, of these letters and ends. */
    private static ReleaseDesk two(String letters, String one, String other) {
        ReleaseDesk desk = new ReleaseDesk();
        desk.type(0, 2, 1, -1, 0);
        desk.branch();
        desk.member(0, 2, isMethod(one), sign(letters.charAt(0), one), Mode.PUBLIC);
        desk.member(0, 2, isMethod(other), sign(letters.charAt(1), other), Mode.PUBLIC);
        return desk;
    }

    private static boolean isMethod(String end) {
        return end.charAt(0) == '(';
    }

    private static int sign(char letter, String end) {
        String[] ends = isMethod(end) ? new String[] {"()", "(int)", "(int,long)"}
            : new String[] {":int", ":long", ":double"};
        int place = 0;
        while (!ends[place].equals(end)) {
            place++;
        }
        return 3 * (letter - 'a') + place;
    }

    private static void byEndsOfMembers(Check check) {
        check.about(TERMS, BY_NAMES);
        for (String letter : new String[] {"a", "d"}) {
            for (int first = 0; first < ENDS.length; first++) {
                for (int second = first + 1; second < ENDS.length; second++) {
                    String due = "B a.C." + letter + ENDS[first] + " 20\nB a.C." + letter + ENDS[second]
                        + " 20\n2 0 0";
                    check.text("two members", Told.lines(two(letter + letter, ENDS[first], ENDS[second])),
                        due);
                }
            }
        }
    }

    private static void byLettersOfMembers(Check check) {
        check.about(TERMS, BY_NAMES);
        for (String letters : new String[] {"ab", "bc", "cd", "ad"}) {
            for (String one : ENDS) {
                for (String other : ENDS) {
                    String due = "B a.C." + letters.charAt(0) + one + " 20\nB a.C." + letters.charAt(1)
                        + other + " 20\n2 0 0";
                    check.text("two members", Told.lines(two(letters, one, other)), due);
                }
            }
        }
    }

    private static void asFound(Check check) {
        check.about(TERMS, "then as they were found (by TYPES, then as said above)");
        for (int weight = 1; weight <= 3; weight++) {
            ReleaseDesk desk = new ReleaseDesk();
            for (int t = 0; t < 8; t += 7) {
                desk.type(0, t, 1, 1, 0);
                desk.member(0, t, Mode.METHOD, 3, Mode.PUBLIC);
                desk.member(0, t, Mode.FIELD, 3, Mode.PROTECTED | Mode.FINAL);
                desk.constant(0, t, 3, 1);
            }
            desk.type(0, 1, 1, -1, 0);
            desk.type(0, 2, 1, -1, 0);
            desk.branch();
            for (int t = 0; t < 8; t += 7) {
                desk.type(1, t, 7 + 16, 2, 0);
                desk.member(1, t, Mode.METHOD, 3, Mode.PROTECTED | 7);
                desk.member(1, t, Mode.FIELD, 3, Mode.PUBLIC | 1);
            }
            Told.rule(desk, "*", 1, 33, weight);
            check.text("with weight " + weight, Told.codes(desk),
                "4 5 6 10 11 22 26 27 29 25 26 28 32 4 5 6 10 11 22 26 27 29 25 26 28 32");
        }
        ReleaseDesk desk = new ReleaseDesk();
        desk.type(0, 0, 1 + 4, -1, 0);
        desk.type(1, 0, 1 + 8, -1, 0);
        Told.rule(desk, "*", 7, 7, 3);
        check.text("a rule's weight is as good as its own", Told.codes(desk), "7 8");
    }

    private static void changesNothing(Check check) {
        check.about(PROMISE, "How many CHANGES the LIST has");
        Unchanged.by(check, "list()", 0, desk -> {
            desk.list();
            return 0;
        });
    }
}
