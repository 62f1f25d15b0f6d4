/** Promise 13, each of its words that name a boundary. */
final class ChangeEdgesTest {
    private static final String PROMISE = "Promise 13";
    private static final String NONE_SUCH = "NONE if there is none such";
    private static final int[] NO_SUCH = {-1, -2, Integer.MIN_VALUE, Integer.MAX_VALUE, 65536};

    public static void main(String[] args) {
        Check check = new Check();
        firstAndLast(check);
        ofTheEmptyList(check);
        beforeAndBehind(check);
        silentOnes(check);
        codes(check);
        weights(check);
        types(check);
        kinds(check);
        signs(check);
        signWithoutMember(check);
        anotherWhat(check);
        changesNothing(check);
        check.end();
    }

    /** Types 0 to 7 gone, the first one the heaviest. */
    private static ReleaseDesk eight() {
        ReleaseDesk desk = new ReleaseDesk();
        for (int t = 0; t < 8; t++) {
            desk.type(0, t, 1, -1, 0);
        }
        return desk;
    }

    private static void firstAndLast(Check check) {
        check.about(PROMISE, "Of CHANGE k (0 the first) of the LIST");
        for (int size = 1; size <= 8; size++) {
            ReleaseDesk desk = new ReleaseDesk();
            for (int t = 8 - size; t < 8; t++) {
                desk.type(0, t, 1, -1, 0);
            }
            check.same("the first one of " + size, desk.change(0, 2), 8 - size);
            check.same("the last one of " + size, desk.change(size - 1, 2), 7);
            check.same("one behind the last of " + size, desk.change(size, 2), ReleaseDesk.NONE);
        }
    }

    private static void ofTheEmptyList(Check check) {
        check.about(PROMISE, NONE_SUCH);
        for (int what = 0; what <= 4; what++) {
            int asked = what;
            Unchanged.after(desk -> { }, check, "change(0, " + what + ") of nothing", ReleaseDesk.NONE,
                desk -> desk.change(0, asked));
            for (int k : NO_SUCH) {
                check.same("change(" + k + ", " + what + ") of nothing",
                    new ReleaseDesk().change(k, what), ReleaseDesk.NONE);
            }
        }
    }

    private static void beforeAndBehind(Check check) {
        check.about(PROMISE, NONE_SUCH);
        ReleaseDesk desk = eight();
        for (int what = 0; what <= 4; what++) {
            for (int k : NO_SUCH) {
                check.same("change(" + k + ", " + what + ")", desk.change(k, what), ReleaseDesk.NONE);
            }
            check.same("change(8, " + what + ")", desk.change(8, what), ReleaseDesk.NONE);
            check.same("change(9, " + what + ")", desk.change(9, what), ReleaseDesk.NONE);
        }
        desk.drop(0, 3);
        check.same("the last one of before", desk.change(7, 0), ReleaseDesk.NONE);
        check.same("the last one now", desk.change(6, 0), 1);
    }

    private static void silentOnes(Check check) {
        check.about(PROMISE, NONE_SUCH);
        for (int code : new int[] {7, 9, 21, 28, 30}) {
            for (int what = 0; what <= 4; what++) {
                check.same("of a list with a silent " + code + " alone", Single.desk(code).change(0, what),
                    ReleaseDesk.NONE);
            }
        }
        ReleaseDesk desk = eight();
        Told.rule(desk, "a.?", 1, 33, 0);
        check.same("of a list that rules made empty", desk.change(0, 0), ReleaseDesk.NONE);
        Told.rule(desk, "a.H", 1, 33, 1);
        check.same("the one left", desk.change(0, 2), 7);
        check.same("none behind it", desk.change(1, 2), ReleaseDesk.NONE);
    }

    private static void codes(Check check) {
        check.about(PROMISE, "what 0: its CODE");
        for (int code : Single.CODES) {
            ReleaseDesk desk = Single.desk(code);
            Told.rule(desk, "*", code, code, 1);
            check.same("of code " + code, desk.change(0, 0), code);
        }
    }

    private static void weights(Check check) {
        check.about(PROMISE, "1: WEIGHT");
        for (int weight = 1; weight <= 3; weight++) {
            ReleaseDesk desk = eight();
            Told.rule(desk, "*", 1, 1, weight);
            Told.rule(desk, "a.C", 1, 1, 4 - weight);
            int light = Math.min(weight, 4 - weight);
            int heavy = Math.max(weight, 4 - weight);
            check.same("the heaviest", desk.change(0, 1), heavy);
            check.same("the lightest", desk.change(7, 1), light);
        }
    }

    private static void types(Check check) {
        check.about(PROMISE, "2: TYPE");
        for (int t = 0; t < 8; t++) {
            for (int code = 0; code < 2; code++) {
                ReleaseDesk desk = new ReleaseDesk();
                desk.type(0, t, 1, -1, 0);
                desk.branch();
                if (code == 0) {
                    desk.type(1, t, 5, -1, 0);
                } else {
                    desk.member(1, t, Mode.METHOD, 4, Mode.PUBLIC);
                }
                check.same("of type " + t, desk.change(0, 2), t);
            }
        }
    }

    private static void kinds(Check check) {
        check.about(PROMISE, "3: 0 if it has no MEMBER, 1 for a FIELD, 2 for a METHOD");
        for (int code : Single.CODES) {
            ReleaseDesk desk = Single.desk(code);
            Told.rule(desk, "*", code, code, 1);
            check.same("of code " + code, desk.change(0, 3), code < 20 ? 0 : code < 31 ? 2 : 1);
        }
        for (int sign = 0; sign < 12; sign++) {
            check.same("of field " + sign, lost(0, Mode.FIELD, sign).change(0, 3), 1);
            check.same("of method " + sign, lost(7, Mode.METHOD, sign).change(0, 3), 2);
        }
    }

    /** A desk on which just one member is gone. */
    private static ReleaseDesk lost(int t, boolean method, int sign) {
        ReleaseDesk desk = new ReleaseDesk();
        desk.type(0, t, 1, -1, 0);
        desk.branch();
        desk.member(0, t, method, sign, Mode.PUBLIC);
        return desk;
    }

    private static void signs(Check check) {
        check.about(PROMISE, "4: the SIGN of that");
        for (int sign = 0; sign < 12; sign++) {
            check.same("of field " + sign, lost(0, Mode.FIELD, sign).change(0, 4), sign);
            check.same("of method " + sign, lost(7, Mode.METHOD, sign).change(0, 4), sign);
        }
    }

    private static void signWithoutMember(Check check) {
        check.about(PROMISE, "4: the SIGN of that (NONE without)");
        for (int code : Single.CODES) {
            ReleaseDesk desk = Single.desk(code);
            Told.rule(desk, "*", code, code, 1);
            check.same("of code " + code, desk.change(0, 4), code < 20 ? ReleaseDesk.NONE : 0);
        }
    }

    private static void anotherWhat(Check check) {
        check.about(PROMISE, "REFUSED for another what");
        for (int what : Told.outside(0, 4)) {
            Unchanged.onBusyDesk(check, "change(0, " + what + ")", ReleaseDesk.REFUSED,
                desk -> desk.change(0, what));
            ReleaseDesk desk = eight();
            check.same("of the last one, what " + what, desk.change(7, what), ReleaseDesk.REFUSED);
            check.same("of the first one, what " + what, desk.change(0, what), ReleaseDesk.REFUSED);
        }
    }

    private static void changesNothing(Check check) {
        check.about(PROMISE, "Of CHANGE k (0 the first) of the LIST");
        Unchanged.onBusyDesk(check, "change(0, 0)", 10, desk -> desk.change(0, 0));
        Unchanged.onBusyDesk(check, "change(0, 4)", ReleaseDesk.NONE, desk -> desk.change(0, 4));
        Unchanged.onBusyDesk(check, "change(1, 4)", 11, desk -> desk.change(1, 4));
        Unchanged.onBusyDesk(check, "change(99, 2)", ReleaseDesk.NONE, desk -> desk.change(99, 2));
        Unchanged.onBusyDesk(check, "change(-1, 2)", ReleaseDesk.NONE, desk -> desk.change(-1, 2));
    }
}
