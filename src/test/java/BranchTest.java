/** Promise 7. */
final class BranchTest {
    public static void main(String[] args) {
        Check check = new Check();
        ReleaseDesk desk = new ReleaseDesk();
        desk.type(0, 0, 1, 2, 2);
        desk.type(0, 1, 16 + 3, -1, 0);
        desk.type(0, 2, 32 + 9, -1, 0);
        desk.member(0, 0, false, 0, 24);
        desk.constant(0, 0, 0, 3);
        desk.member(0, 1, true, 11, 26);
        desk.member(0, 2, false, 11, 0);
        desk.type(1, 0, 0, -1, 0);
        desk.member(1, 0, false, 0, 31);
        desk.type(1, 7, 1, -1, 0);
        desk.member(1, 7, true, 3, 24);
        check.same("private ones count too", desk.branch(), 3);
        check.same("nothing has changed", desk.list(), 0);
        check.no("what only NEW had is gone", desk.drop(1, 7));
        check.same("packages come along", nameFits(desk, "c.C"), 1);

        desk.constant(1, 0, 0, 5);
        check.number("OLD keeps its constant", desk.shift(0), 2);
        desk.drop(1, 1);
        check.text("OLD keeps its types", Told.codes(desk), "10 1 31");
        check.same("branch again", desk.branch(), 3);
        check.same("as before", desk.list(), 0);
        desk.type(1, 0, 1, -1, 2);
        check.text("supers and faces come along", Told.codes(desk), "10");
        desk.drop(0, 0);
        desk.drop(0, 1);
        desk.drop(0, 2);
        check.same("branch of nothing", desk.branch(), 0);
        check.no("leaves nothing", desk.drop(1, 0));
        check.end();
    }

    private static int nameFits(ReleaseDesk desk, String name) {
        Told.spell(desk, name);
        int answer = desk.fits(1, 2, true, -1);
        desk.clear();
        return answer;
    }
}
