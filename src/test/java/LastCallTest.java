/** What it is: an object is used for at most 512 calls, so the 512th must still answer as is due. */
final class LastCallTest {
    private static final int CALLS = 512;
    private static final int SETTING_UP = 6;

    public static void main(String[] args) {
        Check check = new Check();
        check.about("What it is",
            "An object is used for at most 512 calls after it has been made");
        last(check, "type", 1, desk -> Told.bit(desk.type(1, 7, 47, 7, 255)));
        last(check, "drop", 1, desk -> Told.bit(desk.drop(0, 0)));
        last(check, "member", 1, desk -> Told.bit(desk.member(1, 0, Mode.METHOD, 11, 31)));
        last(check, "constant", 1, desk -> Told.bit(desk.constant(1, 0, 0, 7)));
        last(check, "remove", 1, desk -> Told.bit(desk.remove(1, 0, Mode.FIELD, 0)));
        last(check, "branch", 1, desk -> desk.branch());
        last(check, "letter", 2, desk -> desk.letter('*'));
        last(check, "rule", 1, desk -> desk.rule(1, 33, 3));
        last(check, "clear", 0, desk -> desk.clear());
        last(check, "version", 1, desk -> Told.bit(desk.version(9, 9, 9)));
        last(check, "list", 1, desk -> desk.list());
        last(check, "change", 31, desk -> desk.change(0, 0));
        last(check, "shift", 4, desk -> (long) (desk.shift(0) * 2));
        last(check, "report", 20, desk -> desk.report(false, -1));
        last(check, "advice", 1000001, desk -> desk.advice());
        last(check, "judge", 8, desk -> desk.judge(1, 0, 1));
        last(check, "fits", 1, desk -> desk.fits(0, 0, Mode.FIELD, 0));
        check.end();
    }

    private static void last(Check check, String told, long due, Call call) {
        ReleaseDesk desk = new ReleaseDesk();
        desk.type(0, 0, Mode.PUBLIC_TYPE, -1, 0);
        desk.member(0, 0, Mode.FIELD, 0, Mode.PUBLIC);
        desk.constant(0, 0, 0, 1);
        desk.branch();
        desk.constant(1, 0, 0, 3);
        desk.letter('*');
        for (int made = SETTING_UP; made < CALLS - 1; made++) {
            ask(desk, made % 7);
        }
        check.same(told + " as the 512th call", call.on(desk), due);
    }

    private static void ask(ReleaseDesk desk, int which) {
        switch (which) {
            case 0 -> desk.list();
            case 1 -> desk.report(true, 5);
            case 2 -> desk.shift(0);
            case 3 -> desk.judge(1, 1, 1);
            case 4 -> desk.advice();
            case 5 -> desk.fits(0, 0, Mode.METHOD, 11);
            default -> desk.change(0, 4);
        }
    }
}
