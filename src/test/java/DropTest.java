/** Promise 3. */
final class DropTest {
    public static void main(String[] args) {
        Check check = new Check();
        ReleaseDesk desk = new ReleaseDesk();
        check.no("drop of nothing", desk.drop(0, 0));
        for (int wrong : new int[] {-1, 8, Integer.MIN_VALUE, Integer.MAX_VALUE}) {
            check.no("drop of a wrong type", desk.drop(0, wrong));
            check.no("drop in a wrong build", desk.drop(wrong == 8 ? 2 : wrong, 0));
        }
        desk.type(0, 0, 1, -1, 0);
        desk.type(0, 7, 1, -1, 0);
        desk.member(0, 7, false, 11, 24);
        desk.constant(0, 7, 11, 4);
        desk.member(0, 7, true, 11, 24);
        desk.member(0, 0, true, 0, 24);
        desk.branch();
        check.no("drop in another build", desk.drop(1, 3));
        check.yes("drop", desk.drop(0, 7));
        check.no("drop again", desk.drop(0, 7));
        check.no("no member of a dropped type", desk.member(0, 7, true, 0, 24));
        check.text("the one in NEW stays", Told.lines(desk), "N a.H 3\n0 0 1");

        desk.type(0, 7, 1, -1, 0);
        check.no("its members are gone", desk.remove(0, 7, true, 11));
        check.no("its fields are gone", desk.constant(0, 7, 11, 1));
        check.same("members of other types stay", desk.branch(), 1);
        desk.member(0, 7, false, 11, 24);
        desk.member(1, 7, false, 11, 24);
        check.same("its constants are gone", desk.list(), 0);
        check.end();
    }
}
