/** The WEIGHT of each CODE, under 'Terms', for promises 12 and 13. */
final class WeightEdgesTest {
    private static final String PROMISE = "Promise 13, Terms";

    public static void main(String[] args) {
        Check check = new Check();
        breaks(check);
        warnings(check);
        notes(check);
        silent(check);
        check.end();
    }

    private static void breaks(Check check) {
        check.about(PROMISE, "3 BREAK: 1, 2, 4, 5, 6, 8, 10, 20, 22, 26, 27, 29");
        weighs(check, 3, 1, 2, 4, 5, 6, 8, 10, 20, 22, 26, 27, 29);
    }

    private static void warnings(Check check) {
        check.about(PROMISE, "2 WARNING: 24, 31, 32");
        weighs(check, 2, 24, 31, 32);
    }

    private static void notes(Check check) {
        check.about(PROMISE, "1 NOTE: 3, 11, 23, 25, 33");
        weighs(check, 1, 3, 11, 23, 25, 33);
    }

    private static void weighs(Check check, int weight, int... codes) {
        for (int code : codes) {
            ReleaseDesk desk = Single.desk(code);
            check.same("list with code " + code, desk.list(), 1);
            check.same("the code", desk.change(0, 0), code);
            check.same("the weight of code " + code, desk.change(0, 1), weight);
            check.text("the report of code " + code, Told.lines(desk), " NWB".charAt(weight) + " "
                + Single.name(code) + " " + code + "\n" + (weight == 3 ? 1 : 0) + " "
                + (weight == 2 ? 1 : 0) + " " + (weight == 1 ? 1 : 0));
        }
    }

    private static void silent(Check check) {
        check.about(PROMISE, "0 SILENT: 7, 9, 21, 28, 30");
        for (int code : new int[] {7, 9, 21, 28, 30}) {
            ReleaseDesk desk = Single.desk(code);
            check.same("list with code " + code, desk.list(), 0);
            check.same("change", desk.change(0, 0), ReleaseDesk.NONE);
            check.same("advice with code " + code, desk.advice(), 1000001);
            check.same("judge with code " + code, desk.judge(1, 0, 1), 0);
            Told.rule(desk, "*", code, code, 1);
            check.same("it is there", desk.change(0, 0), code);
        }
    }
}
