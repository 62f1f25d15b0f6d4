/** Promise 3, each of its words that name a boundary. */
final class DropEdgesTest {
    private static final String PROMISE = "Promise 3";
    private static final int PUBLIC = Mode.PUBLIC_TYPE;

    public static void main(String[] args) {
        Check check = new Check();
        dropsOneAlone(check);
        staysSuperAndFace(check);
        dropsItsMembers(check);
        notThere(check);
        dropsTwice(check);
        check.end();
    }

    private static void refused(Check check, int build, int t) {
        Unchanged.by(check, "drop(" + build + ", " + t + ")", 0, desk -> Told.bit(desk.drop(build, t)));
    }

    private static void dropsOneAlone(Check check) {
        check.about(PROMISE, "TYPE t of a BUILD is THERE no more");
        for (int build = 0; build < 2; build++) {
            for (int t = 0; t < 8; t += 7) {
                ReleaseDesk desk = new ReleaseDesk();
                for (int u = 0; u < 8; u++) {
                    desk.type(0, u, PUBLIC, -1, 0);
                }
                desk.branch();
                check.yes("drop", desk.drop(build, t));
                check.text("the change", Told.codes(desk), build == 0 ? "3" : "1");
                check.same("its type", desk.change(0, 2), t);
                for (int u = 0; u < 8; u++) {
                    check.same("fits of " + u, desk.fits(build, u, Mode.METHOD, -1),
                        u == t ? ReleaseDesk.NONE : 0);
                    check.same("fits of " + u + " in the other",
                        desk.fits(1 - build, u, Mode.METHOD, -1), 0);
                }
            }
        }
    }

    /** Other types keep it as a SUPER or FACE, THERE or not, so it is above them when it comes again. */
    private static void staysSuperAndFace(Check check) {
        check.about(PROMISE, "TYPE t of a BUILD is THERE no more");
        for (int way = 0; way < 2; way++) {
            ReleaseDesk desk = Mode.deskWithType();
            desk.type(0, 7, PUBLIC, -1, 0);
            desk.type(1, 7, PUBLIC, -1, 0);
            desk.type(1, 0, PUBLIC, way == 0 ? 7 : -1, way == 0 ? 0 : 1 << 7);
            check.text("above", Told.codes(desk), "11");
            desk.drop(1, 7);
            check.text("dropped", Told.codes(desk), "1");
            desk.type(1, 7, PUBLIC, -1, 0);
            check.text("come again", Told.codes(desk), "11");
        }
    }

    private static void dropsItsMembers(Check check) {
        check.about(PROMISE, "nor are its MEMBERS");
        ReleaseDesk desk = new ReleaseDesk();
        for (int t = 5; t < 8; t++) {
            desk.type(0, t, PUBLIC, -1, 0);
            for (int sign = 0; sign < 12; sign++) {
                desk.member(0, t, Mode.FIELD, sign, Mode.PUBLIC);
                desk.constant(0, t, sign, 5);
                desk.member(0, t, Mode.METHOD, sign, Mode.PUBLIC);
            }
        }
        desk.drop(0, 6);
        for (int sign = 0; sign < 12; sign++) {
            check.no("constant " + sign, desk.constant(0, 6, sign, 1));
            check.no("remove field " + sign, desk.remove(0, 6, Mode.FIELD, sign));
            check.no("remove method " + sign, desk.remove(0, 6, Mode.METHOD, sign));
        }
        check.same("those of the types beside it stay", desk.branch(), 48);
        desk.type(0, 6, PUBLIC, -1, 0);
        for (int sign = 0; sign < 12; sign++) {
            check.no("constant " + sign + " of the type come again", desk.constant(0, 6, sign, 1));
            check.no("field " + sign + " come again", desk.remove(0, 6, Mode.FIELD, sign));
            check.no("method " + sign + " come again", desk.remove(0, 6, Mode.METHOD, sign));
        }
        check.same("members after it", desk.branch(), 48);
        for (int sign = 0; sign < 12; sign++) {
            desk.member(0, 6, Mode.FIELD, sign, Mode.PUBLIC);
            desk.member(1, 6, Mode.FIELD, sign, Mode.PUBLIC);
        }
        check.text("fields come again have no constants", Told.codes(desk), "");
    }

    private static void notThere(Check check) {
        check.about(PROMISE, "false if it is not THERE");
        refused(check, 0, 3);
        refused(check, 0, 6);
        refused(check, 1, 5);
        for (int wrong : Told.outside(0, 7)) {
            refused(check, 0, wrong);
            refused(check, 1, wrong);
        }
        for (int wrong : Told.outside(0, 1)) {
            refused(check, wrong, 0);
            refused(check, wrong, 7);
        }
    }

    private static void dropsTwice(Check check) {
        check.about(PROMISE, "true; false if it is not THERE");
        for (int t = 0; t < 8; t += 7) {
            ReleaseDesk desk = new ReleaseDesk();
            check.no("drop before type", desk.drop(1, t));
            desk.type(1, t, 0, -1, 0);
            check.no("drop in the other build", desk.drop(0, t));
            check.yes("drop", desk.drop(1, t));
            check.no("drop again", desk.drop(1, t));
            desk.type(1, t, 0, -1, 0);
            check.yes("drop of one that came again", desk.drop(1, t));
        }
    }
}
