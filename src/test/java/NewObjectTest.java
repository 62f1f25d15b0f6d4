/** Promise 1, and the constants. */
final class NewObjectTest {
    public static void main(String[] args) {
        Check check = new Check();
        check.same("REFUSED", ReleaseDesk.REFUSED, -1);
        check.same("NONE", ReleaseDesk.NONE, -2);
        check.same("FULL", ReleaseDesk.FULL, -3);

        ReleaseDesk desk = new ReleaseDesk();
        for (int build = 0; build < 2; build++) {
            for (int t = 0; t < 8; t++) {
                check.same("fits on a new object", desk.fits(build, t, true, 0), ReleaseDesk.NONE);
                check.no("drop on a new object", desk.drop(build, t));
            }
        }
        check.same("branch of nothing", desk.branch(), 0);
        check.same("list of nothing", desk.list(), 0);
        check.same("advice for 1.0.0", desk.advice(), 1000001);
        check.text("report of nothing", Told.lines(desk), "0 0 0");
        check.same("the first letter", desk.letter('a'), 1);
        check.same("clear without rules", desk.clear(), 0);

        ReleaseDesk other = new ReleaseDesk();
        other.type(0, 0, 1, -1, 0);
        check.same("objects share nothing", desk.list(), 0);
        check.same("a type on the other object", other.list(), 1);
        check.end();
    }
}
