/** Promise 5. */
final class ConstantTest {
    public static void main(String[] args) {
        Check check = new Check();
        ReleaseDesk desk = new ReleaseDesk();
        desk.type(0, 0, 1, -1, 0);
        desk.member(0, 0, true, 3, 24);
        check.no("no such field, but a method", desk.constant(0, 0, 3, 1));
        check.no("no such type", desk.constant(0, 1, 3, 1));
        desk.member(0, 0, false, 0, 24);
        desk.member(0, 0, false, 11, 0);
        for (int wrong : new int[] {-1, 12, Integer.MIN_VALUE, Integer.MAX_VALUE}) {
            check.no("wrong sign", desk.constant(0, 0, wrong, 1));
            check.no("wrong type", desk.constant(0, wrong, 0, 1));
            check.no("wrong build", desk.constant(wrong, 0, 0, 1));
        }
        check.no("type 8", desk.constant(0, 8, 0, 1));
        check.no("build 2", desk.constant(2, 0, 0, 1));
        check.yes("a private field may have one", desk.constant(0, 0, 11, 1));
        check.yes("the first sign", desk.constant(0, 0, 0, 1));
        check.yes("in place of the one it had", desk.constant(0, 0, 0, -2.5));
        desk.branch();
        check.same("the same constants", desk.list(), 0);
        check.yes("in NEW", desk.constant(1, 0, 0, 0.25));
        check.number("the last one counts", desk.shift(0), 2.75);
        desk.remove(0, 0, false, 0);
        check.no("a removed field", desk.constant(0, 0, 0, 1));
        check.end();
    }
}
