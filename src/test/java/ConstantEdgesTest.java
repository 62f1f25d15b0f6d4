/** Promise 5, each of its words that name a boundary. */
final class ConstantEdgesTest {
    private static final String PROMISE = "Promise 5";
    private static final int PUBLIC = Mode.PUBLIC_TYPE;

    public static void main(String[] args) {
        Check check = new Check();
        firstAndLast(check);
        anyNumber(check);
        takesThePlace(check);
        ofAFieldAlone(check);
        noSuchField(check);
        notThere(check);
        wrongNumbers(check);
        check.end();
    }

    private static void refused(Check check, int build, int t, int sign) {
        Unchanged.by(check, "constant(" + build + ", " + t + ", " + sign + ", 8.5)", 0,
            desk -> Told.bit(desk.constant(build, t, sign, 8.5)));
    }

    private static void firstAndLast(Check check) {
        check.about(PROMISE, "FIELD of SIGN sign of TYPE t of a BUILD has the CONSTANT v");
        for (int build = 0; build < 2; build++) {
            for (int t = 0; t < 8; t += 7) {
                for (int sign = 0; sign < 12; sign += 11) {
                    ReleaseDesk desk = new ReleaseDesk();
                    desk.type(0, t, PUBLIC, -1, 0);
                    for (int each = 0; each < 12; each++) {
                        desk.member(0, t, Mode.FIELD, each, Mode.PUBLIC);
                        desk.member(0, t, Mode.METHOD, each, Mode.PUBLIC);
                    }
                    desk.branch();
                    check.yes("constant", desk.constant(build, t, sign, 3));
                    check.text("the change", Told.codes(desk), build == 0 ? "32" : "33");
                    check.same("its type", desk.change(0, 2), t);
                    check.same("its sign", desk.change(0, 4), sign);
                    check.same("it is a field's", desk.change(0, 3), 1);
                }
            }
        }
    }

    private static void anyNumber(Check check) {
        check.about(PROMISE, "has the CONSTANT v: true");
        double[] numbers = {0, 1, -1, 0.1, Double.MIN_VALUE, -Double.MIN_VALUE, Double.MAX_VALUE,
            -Double.MAX_VALUE, Math.nextUp(1.0), 1e300, Integer.MIN_VALUE, Long.MAX_VALUE};
        for (double v : numbers) {
            ReleaseDesk desk = Mode.deskWithType();
            desk.member(0, 0, Mode.FIELD, 4, Mode.PUBLIC);
            desk.branch();
            check.yes("constant " + v, desk.constant(1, 0, 4, v));
            check.text(v + " is one", Told.codes(desk), "33");
            check.yes("constant " + v, desk.constant(0, 0, 4, v));
            check.text(v + " is the same", Told.codes(desk), "");
            desk.constant(0, 0, 4, 0.5);
            check.number("by how much " + v + " is greater", desk.shift(0), v - 0.5);
        }
    }

    private static void takesThePlace(Check check) {
        check.about(PROMISE, "has the CONSTANT v");
        ReleaseDesk desk = Mode.deskWithType();
        desk.member(0, 0, Mode.FIELD, 4, Mode.PUBLIC);
        desk.constant(0, 0, 4, 1);
        desk.branch();
        check.yes("another", desk.constant(1, 0, 4, 2));
        check.yes("and another", desk.constant(1, 0, 4, 7));
        check.number("the last one counts", desk.shift(0), 6);
        check.yes("the first again", desk.constant(1, 0, 4, 1));
        check.same("is no change", desk.list(), 0);
    }

    private static void ofAFieldAlone(Check check) {
        check.about(PROMISE, "FIELD of SIGN sign");
        ReleaseDesk desk = new ReleaseDesk();
        desk.type(0, 0, PUBLIC, -1, 0);
        for (int sign = 0; sign < 12; sign++) {
            desk.member(0, 0, Mode.METHOD, sign, Mode.PUBLIC);
        }
        for (int sign = 0; sign < 12; sign++) {
            check.no("of method " + sign, desk.constant(0, 0, sign, 1));
        }
        desk.member(0, 0, Mode.FIELD, 3, Mode.PRIVATE);
        check.yes("of a field that is not seen", desk.constant(0, 0, 3, 1));
        check.no("of the one before it", desk.constant(0, 0, 2, 1));
        check.no("of the one after it", desk.constant(0, 0, 4, 1));
    }

    private static void noSuchField(Check check) {
        check.about(PROMISE, "false if there is none such");
        refused(check, 0, 0, 1);
        refused(check, 0, 0, 11);
        refused(check, 0, 7, 5);
        refused(check, 1, 0, 6);
        refused(check, 1, 3, 0);
        ReleaseDesk desk = Mode.deskWithType();
        desk.member(0, 0, Mode.FIELD, 5, Mode.PUBLIC);
        check.no("in the other build", desk.constant(1, 0, 5, 1));
        desk.remove(0, 0, Mode.FIELD, 5);
        check.no("of a removed field", desk.constant(0, 0, 5, 1));
        desk.member(0, 0, Mode.FIELD, 5, Mode.PUBLIC);
        desk.member(1, 0, Mode.FIELD, 5, Mode.PUBLIC);
        check.same("nothing came of it", desk.list(), 0);
    }

    private static void notThere(Check check) {
        check.about(PROMISE, "false if there is none such");
        refused(check, 0, 3, 3);
        refused(check, 0, 6, 0);
        refused(check, 1, 4, 11);
        ReleaseDesk desk = new ReleaseDesk();
        desk.type(0, 1, PUBLIC, -1, 0);
        desk.member(0, 1, Mode.FIELD, 5, Mode.PUBLIC);
        desk.drop(0, 1);
        check.no("of a dropped type", desk.constant(0, 1, 5, 1));
    }

    private static void wrongNumbers(Check check) {
        check.about(PROMISE, "false if there is none such");
        for (int wrong : Told.outside(0, 11)) {
            refused(check, 0, 0, wrong);
            refused(check, 1, 3, wrong);
        }
        for (int wrong : Told.outside(0, 7)) {
            refused(check, 0, wrong, 0);
            refused(check, 1, wrong, 0);
        }
        for (int wrong : Told.outside(0, 1)) {
            refused(check, wrong, 0, 0);
            refused(check, wrong, 2, 11);
        }
    }
}
