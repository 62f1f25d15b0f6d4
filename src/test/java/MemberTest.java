/** Promise 4. */
final class MemberTest {
    public static void main(String[] args) {
        Check check = new Check();
        refusesWrongNumbers(check);
        takesEachKindOnce(check);
        replaces(check);
        check.end();
    }

    private static void refusesWrongNumbers(Check check) {
        ReleaseDesk desk = new ReleaseDesk();
        desk.type(0, 0, 1, -1, 0);
        check.no("type not there", desk.member(0, 1, true, 0, 24));
        check.no("type not there in NEW", desk.member(1, 0, true, 0, 24));
        for (int wrong : new int[] {-1, 1000, Integer.MIN_VALUE, Integer.MAX_VALUE}) {
            check.no("wrong build", desk.member(wrong, 0, true, 0, 24));
            check.no("wrong type", desk.member(0, wrong, true, 0, 24));
            check.no("wrong sign", desk.member(0, 0, true, wrong, 24));
            check.no("wrong mode", desk.member(0, 0, true, 0, wrong));
        }
        check.no("sign 12", desk.member(0, 0, false, 12, 24));
        check.no("type 8", desk.member(0, 8, false, 0, 24));
        check.no("mode 32", desk.member(0, 0, false, 0, 32));
        check.same("nothing came", desk.branch(), 0);
    }

    private static void takesEachKindOnce(Check check) {
        ReleaseDesk desk = new ReleaseDesk();
        desk.type(0, 7, 0, -1, 0);
        for (int sign = 0; sign < 12; sign++) {
            check.yes("field", desk.member(0, 7, false, sign, 0));
            check.yes("method", desk.member(0, 7, true, sign, 31));
            check.yes("method again", desk.member(0, 7, true, sign, 30));
        }
        check.same("a field and a method of each sign", desk.branch(), 24);
    }

    private static void replaces(Check check) {
        ReleaseDesk desk = Mode.deskWithType();
        desk.member(0, 0, false, 4, 24);
        desk.constant(0, 0, 4, 2);
        desk.branch();
        desk.member(1, 0, false, 4, 24);
        check.text("a field again has no constant", Told.codes(desk), "32");
        desk.member(1, 0, false, 4, 8);
        check.text("another mode counts", Told.codes(desk), "22");
        desk.member(0, 0, true, 4, 24);
        desk.member(0, 0, false, 4, 24);
        check.text("kinds are apart", Told.codes(desk), "20 22");
    }
}
