/** Promise 16 with THE VERSION and ADVISED under 'Terms', each of its words that name a boundary. */
final class AdviceEdgesTest {
    private static final String PROMISE = "Promise 16";
    private static final String TERMS = "Promise 16, Terms";
    private static final String CARRY = "where a number would be 1000 it is 0, and the one before it 1 more;"
        + " the first one may be 1000";
    private static final String BREAK = "with a BREAK in the LIST the first one 1 more and 0, 0";
    private static final String FIRST_IS_0 = "or, if the first one is 0, the second one 1 more and 0";
    private static final String ADDITION = "else with a CODE 3, 11, 23, 24, 25 or 33 in it,"
        + " the second one 1 more and 0";
    private static final String ELSE = "else the third one 1 more";

    public static void main(String[] args) {
        Check check = new Check();
        numbersTogether(check);
        firstMore(check);
        firstReachesThousand(check);
        firstIsNone(check);
        firstIsNoneAndCarries(check);
        secondMore(check);
        secondCarries(check);
        thirdMore(check);
        thirdCarries(check);
        thirdCarriesTwice(check);
        codesThatAdd(check);
        codesThatDoNot(check);
        weightsOfAdditions(check);
        silentAdditions(check);
        breaksByWeightAlone(check);
        breakBeforeAddition(check);
        oneAmongMany(check);
        changesNothing(check);
        check.end();
    }

    private static ReleaseDesk breaking() {
        return Single.desk(1);
    }

    private static ReleaseDesk adding() {
        return Single.desk(3);
    }

    private static void due(Check check, ReleaseDesk desk, int first, int second, int third, int due) {
        check.yes("version", desk.version(first, second, third));
        check.same("advice after " + first + "." + second + "." + third, desk.advice(), due);
    }

    private static void numbersTogether(Check check) {
        check.about(PROMISE,
            "the first number times a million, the second times a thousand, and the third, together");
        due(check, new ReleaseDesk(), 0, 0, 0, 1);
        due(check, new ReleaseDesk(), 1, 2, 3, 1002004);
        due(check, new ReleaseDesk(), 0, 1, 0, 1001);
        due(check, new ReleaseDesk(), 999, 999, 998, 999999999);
        check.same("of a new desk", new ReleaseDesk().advice(), 1000001);
    }

    private static void firstMore(Check check) {
        check.about(TERMS, BREAK);
        due(check, breaking(), 1, 0, 0, 2000000);
        due(check, breaking(), 1, 1, 1, 2000000);
        due(check, breaking(), 1, 999, 999, 2000000);
        due(check, breaking(), 9, 0, 999, 10000000);
        due(check, breaking(), 998, 999, 999, 999000000);
    }

    private static void firstReachesThousand(Check check) {
        check.about(TERMS, "the first one may be 1000");
        due(check, breaking(), 999, 0, 0, 1000000000);
        due(check, breaking(), 999, 5, 6, 1000000000);
        due(check, breaking(), 999, 999, 999, 1000000000);
        due(check, adding(), 999, 999, 0, 1000000000);
        due(check, adding(), 999, 999, 999, 1000000000);
        due(check, new ReleaseDesk(), 999, 999, 999, 1000000000);
    }

    private static void firstIsNone(Check check) {
        check.about(TERMS, FIRST_IS_0);
        due(check, breaking(), 0, 0, 0, 1000);
        due(check, breaking(), 0, 0, 999, 1000);
        due(check, breaking(), 0, 1, 0, 2000);
        due(check, breaking(), 0, 5, 6, 6000);
        due(check, breaking(), 0, 998, 999, 999000);
        due(check, breaking(), 1, 0, 0, 2000000);
    }

    private static void firstIsNoneAndCarries(Check check) {
        check.about(TERMS, CARRY);
        due(check, breaking(), 0, 999, 0, 1000000);
        due(check, breaking(), 0, 999, 1, 1000000);
        due(check, breaking(), 0, 999, 999, 1000000);
    }

    private static void secondMore(Check check) {
        check.about(TERMS, ADDITION);
        due(check, adding(), 0, 0, 0, 1000);
        due(check, adding(), 1, 0, 0, 1001000);
        due(check, adding(), 1, 2, 3, 1003000);
        due(check, adding(), 1, 998, 999, 1999000);
        due(check, adding(), 999, 998, 999, 999999000);
    }

    private static void secondCarries(Check check) {
        check.about(TERMS, CARRY);
        due(check, adding(), 0, 999, 0, 1000000);
        due(check, adding(), 4, 999, 7, 5000000);
        due(check, adding(), 998, 999, 999, 999000000);
    }

    private static void thirdMore(Check check) {
        check.about(TERMS, ELSE);
        due(check, new ReleaseDesk(), 0, 0, 998, 999);
        due(check, new ReleaseDesk(), 1, 0, 0, 1000001);
        due(check, new ReleaseDesk(), 1, 999, 998, 1999999);
        due(check, Single.desk(31), 1, 2, 3, 1002004);
        due(check, Single.desk(32), 1, 2, 3, 1002004);
    }

    private static void thirdCarries(Check check) {
        check.about(TERMS, CARRY);
        due(check, new ReleaseDesk(), 0, 0, 999, 1000);
        due(check, new ReleaseDesk(), 1, 0, 999, 1001000);
        due(check, new ReleaseDesk(), 1, 2, 999, 1003000);
        due(check, new ReleaseDesk(), 999, 998, 999, 999999000);
    }

    private static void thirdCarriesTwice(Check check) {
        check.about(TERMS, CARRY);
        due(check, new ReleaseDesk(), 0, 999, 999, 1000000);
        due(check, new ReleaseDesk(), 1, 999, 999, 2000000);
        due(check, new ReleaseDesk(), 998, 999, 999, 999000000);
    }

    private static boolean adds(int code) {
        return code == 3 || code == 11 || code == 23 || code == 24 || code == 25 || code == 33;
    }

    private static void codesThatAdd(Check check) {
        check.about(TERMS, ADDITION);
        for (int code : new int[] {3, 11, 23, 24, 25, 33}) {
            check.same("code " + code, Single.desk(code).advice(), 1001000);
        }
    }

    private static void codesThatDoNot(Check check) {
        check.about(TERMS, ELSE);
        for (int code : Single.CODES) {
            if (!adds(code)) {
                for (int weight = 1; weight < 3; weight++) {
                    ReleaseDesk desk = Single.desk(code);
                    Told.rule(desk, "*", code, code, weight);
                    check.same("in the list, code " + code, desk.change(0, 0), code);
                    check.same("code " + code + " with weight " + weight, desk.advice(), 1000001);
                }
            }
        }
    }

    private static void weightsOfAdditions(Check check) {
        check.about(TERMS, ADDITION);
        for (int code : Single.CODES) {
            if (adds(code)) {
                for (int weight = 1; weight < 3; weight++) {
                    ReleaseDesk desk = Single.desk(code);
                    Told.rule(desk, "*", code, code, weight);
                    check.same("code " + code + " with weight " + weight, desk.advice(), 1001000);
                }
            }
        }
    }

    private static void silentAdditions(Check check) {
        check.about(TERMS, "33 in it");
        for (int code : new int[] {3, 11, 23, 24, 25, 33}) {
            ReleaseDesk desk = Single.desk(code);
            Told.rule(desk, "*", code, code, 0);
            check.same("code " + code + ", which is not in the list", desk.advice(), 1000001);
        }
    }

    private static void breaksByWeightAlone(Check check) {
        check.about(TERMS, BREAK);
        for (int code : Single.CODES) {
            ReleaseDesk desk = Single.desk(code);
            Told.rule(desk, "*", code, code, 3);
            check.same("code " + code + " made a break", desk.advice(), 2000000);
            Told.rule(desk, "*", code, code, 2);
            check.same("code " + code + " made a warning", desk.advice(), adds(code) ? 1001000 : 1000001);
            Told.rule(desk, "*", code, code, 0);
            check.same("code " + code + " made silent", desk.advice(), 1000001);
        }
    }

    private static void breakBeforeAddition(Check check) {
        check.about(TERMS, BREAK);
        ReleaseDesk desk = Single.desk(3);
        desk.type(0, 1, 1, -1, 0);
        check.same("with both", desk.advice(), 2000000);
        desk.version(0, 4, 5);
        check.same("with both after 0.4.5", desk.advice(), 5000);
        Told.rule(desk, "*", 1, 1, 0);
        check.same("with the addition alone", desk.advice(), 5000);
        desk.version(3, 4, 5);
        check.same("with the addition alone after 3.4.5", desk.advice(), 3005000);
    }

    /** The one that counts stands first, in the middle or last in the list. */
    private static void oneAmongMany(Check check) {
        check.about(TERMS, "with a CODE 3, 11, 23, 24, 25 or 33 in it");
        for (int added = 0; added < 8; added++) {
            ReleaseDesk desk = new ReleaseDesk();
            for (int t = 0; t < 8; t++) {
                desk.type(t == added ? 1 : 0, t, 1, -1, 0);
            }
            Told.rule(desk, "*", 1, 3, 1);
            check.same("the changes", desk.list(), 8);
            check.same("the place of the addition", desk.change(added, 0), 3);
            check.same("an addition among eight", desk.advice(), 1001000);
            Told.rule(desk, "a." + "ABCDEFGH".charAt((added + 1) % 8), 1, 1, 3);
            check.same("and a break", desk.advice(), 2000000);
        }
    }

    private static void changesNothing(Check check) {
        check.about(PROMISE, "The ADVISED version");
        Unchanged.onBusyDesk(check, "advice()", 5000000, desk -> desk.advice());
        Unchanged.after(desk -> { }, check, "advice() of nothing", 1000001, desk -> desk.advice());
        Calls last = desk -> desk.version(999, 999, 999);
        Unchanged.after(last, check, "advice() after 999.999.999", 1000000000, desk -> desk.advice());
    }
}
