/** Promise 14. */
final class ShiftTest {
    public static void main(String[] args) {
        Check check = new Check();
        ReleaseDesk desk = Mode.deskWithType();
        check.number("none", desk.shift(0), 0);
        for (int sign = 0; sign < 4; sign++) {
            desk.member(0, 0, false, sign, 24);
            desk.member(1, 0, false, sign, 24);
        }
        desk.constant(0, 0, 0, 10);
        desk.constant(1, 0, 0, 2.5);
        desk.constant(0, 0, 2, -4);
        desk.constant(1, 0, 2, 4);
        desk.constant(0, 0, 1, 5);
        desk.constant(1, 0, 3, 5);
        check.text("the list", Told.codes(desk), "31 31 32 33");
        check.number("greater", desk.shift(0), 8);
        check.number("less", desk.shift(1), -7.5);
        check.number("lost", desk.shift(2), 0);
        check.number("won", desk.shift(3), 0);
        for (int k : new int[] {-1, 4, Integer.MIN_VALUE, Integer.MAX_VALUE}) {
            check.number("shift " + k, desk.shift(k), 0);
        }
        odd(check, Double.NEGATIVE_INFINITY, Double.POSITIVE_INFINITY, Double.POSITIVE_INFINITY);
        odd(check, Double.POSITIVE_INFINITY, 1, Double.NEGATIVE_INFINITY);
        odd(check, -Double.MAX_VALUE, Double.MAX_VALUE, Double.POSITIVE_INFINITY);
        odd(check, 0, Double.MIN_VALUE, Double.MIN_VALUE);
        odd(check, Double.NaN, 1, Double.NaN);
        odd(check, 1, Double.NaN, Double.NaN);
        odd(check, Double.POSITIVE_INFINITY, Double.POSITIVE_INFINITY, 0);
        check.end();
    }

    private static void odd(Check check, double was, double is, double due) {
        ReleaseDesk desk = Mode.deskWithType();
        desk.member(0, 0, false, 11, 24);
        desk.branch();
        desk.constant(0, 0, 11, was);
        desk.constant(1, 0, 11, is);
        check.number("from " + was + " to " + is, desk.shift(0), due);
    }
}
