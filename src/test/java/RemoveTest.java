/** Promise 6. */
final class RemoveTest {
    public static void main(String[] args) {
        Check check = new Check();
        ReleaseDesk desk = new ReleaseDesk();
        check.no("no type", desk.remove(0, 0, true, 0));
        desk.type(0, 0, 1, -1, 0);
        desk.member(0, 0, true, 0, 24);
        desk.member(0, 0, false, 11, 24);
        for (int wrong : new int[] {-1, 12, Integer.MIN_VALUE, Integer.MAX_VALUE}) {
            check.no("wrong sign", desk.remove(0, 0, true, wrong));
            check.no("wrong type", desk.remove(0, wrong, true, 0));
            check.no("wrong build", desk.remove(wrong, 0, true, 0));
        }
        check.no("type 8", desk.remove(0, 8, true, 0));
        check.no("build 2", desk.remove(2, 0, true, 0));
        check.no("the other kind", desk.remove(0, 0, false, 0));
        check.no("the other kind of the last sign", desk.remove(0, 0, true, 11));
        check.no("the other build", desk.remove(1, 0, true, 0));
        check.yes("the method", desk.remove(0, 0, true, 0));
        check.no("the method again", desk.remove(0, 0, true, 0));
        check.yes("the field", desk.remove(0, 0, false, 11));
        check.same("none is left", desk.branch(), 0);

        desk.member(0, 0, false, 2, 24);
        desk.constant(0, 0, 2, 1);
        desk.branch();
        desk.remove(1, 0, false, 2);
        desk.member(1, 0, false, 2, 24);
        check.text("its constant went with it", Told.codes(desk), "32");
        check.end();
    }
}
