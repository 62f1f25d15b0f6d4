/** Promise 14, each of its words that name a boundary. */
final class ShiftEdgesTest {
    private static final String PROMISE = "Promise 14";
    private static final String OTHER_CODE = "0 if its CODE is not 31";
    private static final String NONE_SUCH = "or there is none such";

    public static void main(String[] args) {
        Check check = new Check();
        greaterInNew(check);
        lessInNew(check);
        fromAndToNothing(check);
        leastAndGreatest(check);
        ofEachField(check);
        otherCodes(check);
        constantsOfOtherCodes(check);
        ofTheEmptyList(check);
        beforeAndBehind(check);
        silent(check);
        changesNothing(check);
        check.end();
    }

    private static ReleaseDesk desk(double was, double is) {
        ReleaseDesk desk = Single.members(Mode.FIELD, Mode.PUBLIC, Mode.PUBLIC);
        desk.constant(0, 0, 0, was);
        desk.constant(1, 0, 0, is);
        return desk;
    }

    private static void due(Check check, double was, double is, double due) {
        check.number("from " + was + " to " + is, desk(was, is).shift(0), due);
    }

    private static void greaterInNew(Check check) {
        check.about(PROMISE, "By how much the CONSTANT of the FIELD of CHANGE k of the LIST is greater in"
            + " NEW than in OLD");
        due(check, 1, 3.5, 2.5);
        due(check, -3.5, -1, 2.5);
        due(check, -1, 1, 2);
        due(check, 0.1, 0.3, 0.3 - 0.1);
    }

    private static void lessInNew(Check check) {
        check.about(PROMISE, "is greater in NEW than in OLD");
        due(check, 3.5, 1, -2.5);
        due(check, -1, -3.5, -2.5);
        due(check, 1, -1, -2);
        due(check, 0.3, 0.1, 0.1 - 0.3);
    }

    private static void fromAndToNothing(Check check) {
        check.about(PROMISE, "is greater in NEW than in OLD");
        due(check, 0, 4, 4);
        due(check, 0, -4, -4);
        due(check, 4, 0, -4);
        due(check, -4, 0, 4);
        due(check, 4, 4, 0);
        due(check, 0, 0, 0);
    }

    private static void leastAndGreatest(Check check) {
        check.about(PROMISE, "is greater in NEW than in OLD");
        due(check, 0, Double.MIN_VALUE, Double.MIN_VALUE);
        due(check, Double.MIN_VALUE, 0, -Double.MIN_VALUE);
        due(check, 0, Double.MAX_VALUE, Double.MAX_VALUE);
        due(check, Double.MAX_VALUE, 0, -Double.MAX_VALUE);
        due(check, -Double.MAX_VALUE, Double.MAX_VALUE, Double.POSITIVE_INFINITY);
        due(check, Integer.MIN_VALUE, Integer.MAX_VALUE, 4294967295.0);
        due(check, 1, Math.nextUp(1.0), Math.ulp(1.0));
        due(check, 1e9, 1e9 + 0.25, 0.25);
        due(check, 1, Double.POSITIVE_INFINITY, Double.POSITIVE_INFINITY);
        due(check, Double.POSITIVE_INFINITY, 1, Double.NEGATIVE_INFINITY);
    }

    private static void ofEachField(Check check) {
        check.about(PROMISE, "the CONSTANT of the FIELD of CHANGE k of the LIST");
        ReleaseDesk desk = new ReleaseDesk();
        for (int t = 0; t < 8; t++) {
            desk.type(0, t, 1, -1, 0);
            for (int sign = 0; sign < 12; sign++) {
                desk.member(0, t, Mode.FIELD, sign, Mode.PUBLIC);
                desk.constant(0, t, sign, 100 * t + sign);
            }
        }
        desk.branch();
        for (int t = 0; t < 8; t += 7) {
            for (int sign = 0; sign < 12; sign++) {
                desk.constant(1, t, sign, 2 * (100 * t + sign) + 1);
            }
        }
        check.same("list", desk.list(), 24);
        for (int k = 0; k < 24; k++) {
            check.number("shift " + k, desk.shift(k), 100 * desk.change(k, 2) + desk.change(k, 4) + 1);
        }
    }

    private static void otherCodes(Check check) {
        check.about(PROMISE, OTHER_CODE);
        for (int code : Single.CODES) {
            ReleaseDesk desk = Single.desk(code);
            Told.rule(desk, "*", code, code, 1);
            check.same("the code", desk.change(0, 0), code);
            check.number("shift of code " + code, desk.shift(0), code == 31 ? 1 : 0);
        }
    }

    /** Other changes of a field whose constants differ. */
    private static void constantsOfOtherCodes(Check check) {
        check.about(PROMISE, OTHER_CODE);
        ReleaseDesk desk = Single.members(Mode.FIELD, Mode.PUBLIC, Mode.PROTECTED | 5);
        desk.constant(0, 0, 0, 2);
        desk.constant(1, 0, 0, 9);
        check.text("all changes of the field", Told.codes(desk), "22 26 27 31");
        check.number("of less access", desk.shift(0), 0);
        check.number("of static", desk.shift(1), 0);
        check.number("of final", desk.shift(2), 0);
        check.number("of the constant", desk.shift(3), 7);
        desk.member(1, 0, Mode.FIELD, 0, Mode.PUBLIC);
        check.text("no constant any more", Told.codes(desk), "32");
        check.number("its shift", desk.shift(0), 0);
        desk.constant(1, 0, 0, 9);
        desk.member(0, 0, Mode.FIELD, 0, Mode.PUBLIC);
        check.text("a constant now", Told.codes(desk), "33");
        check.number("its shift", desk.shift(0), 0);
        desk.member(0, 0, Mode.FIELD, 0, Mode.PRIVATE);
        desk.constant(0, 0, 0, 2);
        check.text("a field added", Told.codes(desk), "23");
        check.number("its shift", desk.shift(0), 0);
        desk.member(0, 0, Mode.FIELD, 0, Mode.PUBLIC);
        desk.constant(0, 0, 0, 2);
        desk.remove(1, 0, Mode.FIELD, 0);
        check.text("a field removed", Told.codes(desk), "20");
        check.number("its shift", desk.shift(0), 0);
    }

    private static void ofTheEmptyList(Check check) {
        check.about(PROMISE, NONE_SUCH);
        for (int k : new int[] {0, 1, -1, Integer.MIN_VALUE, Integer.MAX_VALUE}) {
            check.number("shift(" + k + ") of nothing", new ReleaseDesk().shift(k), 0);
        }
        Unchanged.after(desk -> { }, check, "shift(0) of nothing", 0, desk -> (long) desk.shift(0));
    }

    private static void beforeAndBehind(Check check) {
        check.about(PROMISE, NONE_SUCH);
        ReleaseDesk desk = desk(1, 5);
        check.number("the only one", desk.shift(0), 4);
        for (int k : new int[] {-1, 1, 2, Integer.MIN_VALUE, Integer.MAX_VALUE, 65536}) {
            check.number("shift(" + k + ")", desk.shift(k), 0);
        }
        desk.member(0, 0, Mode.FIELD, 1, Mode.PUBLIC);
        desk.constant(0, 0, 1, 1);
        desk.member(1, 0, Mode.FIELD, 1, Mode.PUBLIC);
        desk.constant(1, 0, 1, 3);
        check.number("the last one", desk.shift(1), 2);
        check.number("one behind it", desk.shift(2), 0);
        desk.constant(1, 0, 0, 1);
        check.number("the first one now", desk.shift(0), 2);
        check.number("the last one of before", desk.shift(1), 0);
    }

    private static void silent(Check check) {
        check.about(PROMISE, NONE_SUCH);
        ReleaseDesk desk = desk(1, 5);
        Told.rule(desk, "*", 31, 31, 0);
        check.number("of one that is not listed", desk.shift(0), 0);
        Told.rule(desk, "*", 31, 31, 3);
        check.number("of one that is a break", desk.shift(0), 4);
    }

    private static void changesNothing(Check check) {
        check.about(PROMISE, "By how much the CONSTANT");
        Unchanged.onBusyDesk(check, "shift(0)", 0, desk -> (long) desk.shift(0));
        Unchanged.onBusyDesk(check, "shift(-1)", 0, desk -> (long) desk.shift(-1));
        Unchanged.onBusyDesk(check, "shift(99)", 0, desk -> (long) desk.shift(99));
        Calls changed = desk -> {
            desk.type(0, 0, 1, -1, 0);
            desk.member(0, 0, Mode.FIELD, 0, Mode.PUBLIC);
            desk.constant(0, 0, 0, 1);
            desk.branch();
            desk.constant(1, 0, 0, 3);
        };
        Unchanged.after(changed, check, "shift(0) of a constant", 2, desk -> (long) desk.shift(0));
    }
}
