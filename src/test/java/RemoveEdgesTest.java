/** Promise 6, each of its words that name a boundary. */
final class RemoveEdgesTest {
    private static final String PROMISE = "Promise 6";
    private static final int PUBLIC = Mode.PUBLIC_TYPE;

    public static void main(String[] args) {
        Check check = new Check();
        oneAlone(check);
        theLastOne(check);
        itsConstantToo(check);
        noneSuch(check);
        removesTwice(check);
        notThere(check);
        wrongNumbers(check);
        check.end();
    }

    private static void refused(Check check, int build, int t, boolean method, int sign) {
        Unchanged.by(check, "remove(" + build + ", " + t + ", " + method + ", " + sign + ")", 0,
            desk -> Told.bit(desk.remove(build, t, method, sign)));
    }

    private static void oneAlone(Check check) {
        check.about(PROMISE, "TYPE t of a BUILD has that MEMBER no more");
        for (boolean method : new boolean[] {Mode.FIELD, Mode.METHOD}) {
            for (int sign = 0; sign < 12; sign += 11) {
                for (int t = 0; t < 8; t += 7) {
                    ReleaseDesk desk = new ReleaseDesk();
                    for (int u = 0; u < 8; u += 7) {
                        desk.type(0, u, PUBLIC, -1, 0);
                        for (int each = 0; each < 12; each++) {
                            desk.member(0, u, Mode.FIELD, each, Mode.PUBLIC);
                            desk.member(0, u, Mode.METHOD, each, Mode.PUBLIC);
                        }
                    }
                    desk.branch();
                    check.yes("remove", desk.remove(1, t, method, sign));
                    check.text("the change", Told.codes(desk), "20");
                    check.same("its type", desk.change(0, 2), t);
                    check.same("its kind", desk.change(0, 3), method ? 2 : 1);
                    check.same("its sign", desk.change(0, 4), sign);
                    check.yes("the other build has it yet", desk.remove(0, t, method, sign));
                    check.same("all but one stay", desk.branch(), 47);
                }
            }
        }
    }

    private static void theLastOne(Check check) {
        check.about(PROMISE, "has that MEMBER no more: true");
        ReleaseDesk desk = new ReleaseDesk();
        desk.type(0, 3, PUBLIC, -1, 0);
        desk.member(0, 3, Mode.FIELD, 6, Mode.PRIVATE);
        check.yes("the only one", desk.remove(0, 3, Mode.FIELD, 6));
        check.same("none is left", desk.branch(), 0);
        check.yes("the type stays", desk.drop(0, 3));
    }

    private static void itsConstantToo(Check check) {
        check.about(PROMISE, "has that MEMBER no more");
        ReleaseDesk desk = Mode.deskWithType();
        desk.member(0, 0, Mode.FIELD, 6, Mode.PUBLIC);
        desk.branch();
        desk.constant(0, 0, 6, 2);
        desk.remove(0, 0, Mode.FIELD, 6);
        desk.member(0, 0, Mode.FIELD, 6, Mode.PUBLIC);
        check.same("a field come again has no constant", desk.list(), 0);
    }

    private static void noneSuch(Check check) {
        check.about(PROMISE, "false if it has none such");
        refused(check, 0, 0, Mode.FIELD, 11);
        refused(check, 0, 0, Mode.METHOD, 1);
        refused(check, 0, 2, Mode.METHOD, 11);
        refused(check, 0, 7, Mode.FIELD, 5);
        refused(check, 1, 0, Mode.METHOD, 0);
        refused(check, 1, 3, Mode.METHOD, 3);
        refused(check, 1, 3, Mode.FIELD, 2);
        refused(check, 1, 3, Mode.FIELD, 4);
    }

    private static void removesTwice(Check check) {
        check.about(PROMISE, "true; false if it has none such");
        for (boolean method : new boolean[] {Mode.FIELD, Mode.METHOD}) {
            ReleaseDesk desk = Mode.deskWithType();
            check.no("before it came", desk.remove(0, 0, method, 0));
            desk.member(0, 0, method, 0, Mode.PRIVATE);
            check.no("the other kind", desk.remove(0, 0, !method, 0));
            check.no("the other build", desk.remove(1, 0, method, 0));
            check.yes("the one", desk.remove(0, 0, method, 0));
            check.no("again", desk.remove(0, 0, method, 0));
            desk.member(0, 0, method, 0, Mode.PUBLIC);
            check.yes("one that came again", desk.remove(0, 0, method, 0));
        }
    }

    private static void notThere(Check check) {
        check.about(PROMISE, "false if it has none such");
        refused(check, 0, 3, Mode.FIELD, 3);
        refused(check, 0, 6, Mode.METHOD, 0);
        refused(check, 1, 4, Mode.METHOD, 11);
        ReleaseDesk desk = new ReleaseDesk();
        desk.type(0, 1, PUBLIC, -1, 0);
        desk.member(0, 1, Mode.METHOD, 5, Mode.PUBLIC);
        desk.drop(0, 1);
        check.no("of a dropped type", desk.remove(0, 1, Mode.METHOD, 5));
    }

    private static void wrongNumbers(Check check) {
        check.about(PROMISE, "false if it has none such");
        for (boolean method : new boolean[] {Mode.FIELD, Mode.METHOD}) {
            for (int wrong : Told.outside(0, 11)) {
                refused(check, 0, 0, method, wrong);
                refused(check, 1, 0, method, wrong);
            }
            // Beside the signs of one kind stand, in some orders, those of the other kind.
            refused(check, 0, 0, method, 12);
            refused(check, 0, 0, method, 23);
            refused(check, 0, 1, method, -12);
            for (int wrong : Told.outside(0, 7)) {
                refused(check, 0, wrong, method, 0);
                refused(check, 1, wrong, method, 11);
            }
            for (int wrong : Told.outside(0, 1)) {
                refused(check, wrong, 0, method, 0);
                refused(check, wrong, 1, method, 11);
            }
        }
    }
}
