/** Promise 17, each of its words that name a boundary. */
final class JudgeEdgesTest {
    private static final String PROMISE = "Promise 17";
    private static final String ADVISED = "0 if it is not less than what is ADVISED";
    private static final String BETWEEN = "1 if it is, but greater than that of OLD";
    private static final String OLD = "2 if it is that or less";
    private static final String BREAK = "plus 4 if there is a BREAK in the LIST";
    private static final String WARNING = "and plus 8 if there is a WARNING";
    private static final String REFUSED = "REFUSED if a number is not 0 to 999";

    public static void main(String[] args) {
        Check check = new Check();
        advisedItself(check);
        justLessThanAdvised(check);
        justGreaterThanOld(check);
        oldItself(check);
        justLessThanOld(check);
        nothingBetween(check);
        carriedOver(check);
        never(check);
        breaks(check);
        warnings(check);
        both(check);
        neither(check);
        leastAndGreatest(check);
        refused(check);
        changesNothing(check);
        check.end();
    }

    /** A desk with one change: 1 is a break, 3 an addition, and 9 is silent. */
    private static ReleaseDesk desk(int code, int first, int second, int third) {
        ReleaseDesk desk = Single.desk(code);
        desk.version(first, second, third);
        return desk;
    }

    private static void due(Check check, ReleaseDesk desk, int due, int first, int second, int third) {
        check.same("judge(" + first + ", " + second + ", " + third + ")", desk.judge(first, second, third),
            due);
    }

    private static void advisedItself(Check check) {
        check.about(PROMISE, ADVISED);
        due(check, desk(9, 5, 6, 7), 0, 5, 6, 8);
        due(check, desk(9, 5, 6, 7), 0, 5, 6, 9);
        due(check, desk(3, 5, 6, 7), 0, 5, 7, 0);
        due(check, desk(3, 5, 6, 7), 0, 5, 7, 1);
        due(check, desk(1, 5, 6, 7), 4, 6, 0, 0);
        due(check, desk(1, 5, 6, 7), 4, 6, 0, 1);
        due(check, desk(1, 0, 6, 7), 4, 0, 7, 0);
        due(check, desk(1, 5, 6, 7), 4, 999, 999, 999);
    }

    private static void justLessThanAdvised(Check check) {
        check.about(PROMISE, BETWEEN);
        due(check, desk(3, 5, 6, 7), 1, 5, 6, 999);
        due(check, desk(1, 5, 6, 7), 5, 5, 999, 999);
        due(check, desk(1, 0, 6, 7), 5, 0, 6, 999);
    }

    private static void justGreaterThanOld(Check check) {
        check.about(PROMISE, BETWEEN);
        due(check, desk(3, 5, 6, 7), 1, 5, 6, 8);
        due(check, desk(1, 5, 6, 7), 5, 5, 6, 8);
        due(check, desk(1, 5, 6, 999), 5, 5, 7, 0);
        due(check, desk(1, 0, 6, 7), 5, 0, 6, 8);
    }

    private static void oldItself(Check check) {
        check.about(PROMISE, OLD);
        due(check, desk(9, 5, 6, 7), 2, 5, 6, 7);
        due(check, desk(3, 5, 6, 7), 2, 5, 6, 7);
        due(check, desk(1, 5, 6, 7), 6, 5, 6, 7);
        due(check, desk(9, 0, 0, 0), 2, 0, 0, 0);
        due(check, desk(1, 999, 999, 999), 6, 999, 999, 999);
    }

    private static void justLessThanOld(Check check) {
        check.about(PROMISE, OLD);
        due(check, desk(9, 5, 6, 7), 2, 5, 6, 6);
        due(check, desk(9, 5, 6, 0), 2, 5, 5, 999);
        due(check, desk(9, 5, 0, 0), 2, 4, 999, 999);
        due(check, desk(1, 5, 6, 7), 6, 5, 6, 6);
        due(check, desk(1, 5, 6, 7), 6, 0, 0, 0);
        due(check, desk(3, 999, 999, 999), 2, 0, 999, 999);
    }

    /** Where ADVISED is the next version, nothing is less than it and greater than that of OLD. */
    private static void nothingBetween(Check check) {
        check.about(PROMISE, BETWEEN);
        for (int third = 0; third < 999; third += 37) {
            ReleaseDesk desk = desk(9, 5, 6, third);
            due(check, desk, 2, 5, 6, third);
            due(check, desk, 0, 5, 6, third + 1);
        }
        due(check, desk(3, 5, 6, 999), 0, 5, 7, 0);
        due(check, desk(1, 5, 999, 999), 4, 6, 0, 0);
    }

    private static void carriedOver(Check check) {
        check.about(PROMISE, ADVISED);
        due(check, desk(9, 5, 6, 999), 0, 5, 7, 0);
        due(check, desk(9, 5, 999, 999), 0, 6, 0, 0);
        due(check, desk(3, 5, 999, 0), 0, 6, 0, 0);
        due(check, desk(3, 5, 999, 0), 1, 5, 999, 999);
        due(check, desk(1, 0, 999, 0), 4, 1, 0, 0);
        due(check, desk(1, 0, 999, 0), 5, 0, 999, 999);
    }

    private static void never(Check check) {
        check.about(PROMISE, BETWEEN);
        due(check, desk(1, 999, 0, 0), 5, 999, 999, 999);
        due(check, desk(1, 999, 0, 0), 5, 999, 0, 1);
        due(check, desk(3, 999, 999, 0), 1, 999, 999, 999);
        due(check, desk(1, 999, 999, 999), 6, 999, 999, 999);
        due(check, desk(9, 999, 999, 999), 2, 999, 999, 999);
    }

    private static void breaks(Check check) {
        check.about(PROMISE, BREAK);
        for (int code : Single.CODES) {
            ReleaseDesk desk = Single.desk(code);
            Told.rule(desk, "*", code, code, 3);
            due(check, desk, 4, 2, 0, 0);
            due(check, desk, 5, 1, 0, 1);
            due(check, desk, 6, 1, 0, 0);
        }
    }

    private static void warnings(Check check) {
        check.about(PROMISE, WARNING);
        for (int code : Single.CODES) {
            ReleaseDesk desk = Single.desk(code);
            Told.rule(desk, "*", code, code, 2);
            boolean adds = desk.advice() == 1001000;
            due(check, desk, 8, 1, 1, 0);
            due(check, desk, adds ? 9 : 8, 1, 0, 1);
            due(check, desk, 10, 1, 0, 0);
        }
    }

    private static void both(Check check) {
        check.about(PROMISE, WARNING);
        for (int breaks = 1; breaks < 8; breaks++) {
            ReleaseDesk desk = new ReleaseDesk();
            for (int t = 0; t < 8; t++) {
                desk.type(0, t, 1, -1, 0);
            }
            Told.rule(desk, "*", 1, 1, 2);
            for (int t = 0; t < breaks; t++) {
                Told.rule(desk, "a." + "ABCDEFGH".charAt(t), 1, 1, 3);
            }
            due(check, desk, 12, 2, 0, 0);
            due(check, desk, 13, 1, 999, 999);
            due(check, desk, 14, 1, 0, 0);
        }
    }

    private static void neither(Check check) {
        check.about(PROMISE, BREAK + ", " + WARNING);
        due(check, new ReleaseDesk(), 0, 1, 0, 1);
        due(check, new ReleaseDesk(), 2, 1, 0, 0);
        for (int code : Single.CODES) {
            for (int weight = 0; weight < 2; weight++) {
                ReleaseDesk desk = Single.desk(code);
                Told.rule(desk, "*", code, code, weight);
                due(check, desk, 0, 1, 1, 0);
                due(check, desk, 2, 1, 0, 0);
            }
        }
    }

    private static void leastAndGreatest(Check check) {
        check.about(PROMISE, REFUSED);
        int[] edges = {0, 999};
        for (int first : edges) {
            for (int second : edges) {
                for (int third : edges) {
                    ReleaseDesk desk = desk(9, 5, 6, 7);
                    due(check, desk, first == 0 ? 2 : 0, first, second, third);
                    due(check, desk, second == 0 ? 2 : 0, 5, second, third);
                    due(check, desk, third == 0 ? 2 : 0, 5, 6, third);
                }
            }
        }
    }

    private static void refused(Check check) {
        check.about(PROMISE, REFUSED);
        for (int wrong : Told.outside(0, 999)) {
            refused(check, wrong, 0, 0);
            refused(check, 9, wrong, 0);
            refused(check, 9, 0, wrong);
            refused(check, wrong, wrong, wrong);
        }
        refused(check, 1000, 0, 0);
        refused(check, 0, 1000, -1);
        refused(check, 5, -1, 1000);
        due(check, desk(1, 999, 0, 0), ReleaseDesk.REFUSED, 1000, 0, 0);
    }

    private static void refused(Check check, int first, int second, int third) {
        Unchanged.by(check, "judge(" + first + ", " + second + ", " + third + ")", ReleaseDesk.REFUSED,
            desk -> desk.judge(first, second, third));
    }

    private static void changesNothing(Check check) {
        check.about(PROMISE, "Whether NEW may be released with this version");
        Unchanged.onBusyDesk(check, "judge(4, 5, 6)", 14, desk -> desk.judge(4, 5, 6));
        Unchanged.onBusyDesk(check, "judge(4, 5, 7)", 13, desk -> desk.judge(4, 5, 7));
        Unchanged.onBusyDesk(check, "judge(5, 0, 0)", 12, desk -> desk.judge(5, 0, 0));
        Unchanged.by(check, "judge(0, 0, 0)", 2, desk -> desk.judge(0, 0, 0) & 3);
    }
}
