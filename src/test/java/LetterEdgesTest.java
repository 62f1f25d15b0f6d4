/** Promise 8, each of its words that name a boundary. */
final class LetterEdgesTest {
    private static final String PROMISE = "Promise 8";
    private static final String NAME = "c.H.d(int,long)";

    public static void main(String[] args) {
        Check check = new Check();
        firstAndLastCharacter(check);
        comesToTheEnd(check);
        countsToTwelve(check);
        refused(check);
        refusedInAnEmptyPattern(check);
        full(check);
        roomAgain(check);
        check.end();
    }

    private static void firstAndLastCharacter(Check check) {
        check.about(PROMISE, "A character (33 to 126)");
        for (int c = 33; c <= 126; c++) {
            ReleaseDesk desk = new ReleaseDesk();
            check.same("letter(" + c + ")", desk.letter(c), 1);
            check.same("again", desk.letter(c), 2);
        }
    }

    private static void comesToTheEnd(Check check) {
        check.about(PROMISE, "comes to the end of the PATTERN");
        ReleaseDesk desk = new ReleaseDesk();
        desk.type(0, 7, 32, -1, 0);
        for (int length = 1; length <= 10; length++) {
            desk.letter(NAME.charAt(length - 1));
            desk.letter('*');
            check.same("fits with " + length + " letters and *", desk.fits(0, 7, Mode.METHOD, 11), 1);
            desk.clear();
            Told.spell(desk, NAME.substring(0, length));
        }
    }

    private static void countsToTwelve(Check check) {
        check.about(PROMISE, "how many it has");
        ReleaseDesk desk = new ReleaseDesk();
        for (int length = 1; length <= 12; length++) {
            check.same("letter " + length, desk.letter(NAME.charAt(length - 1)), length);
        }
        desk = new ReleaseDesk();
        for (int length = 1; length <= 12; length++) {
            check.same("* " + length, desk.letter('*'), length);
        }
    }

    private static void refused(Check check) {
        check.about(PROMISE, "REFUSED for another one");
        for (int c : Told.outside(33, 126)) {
            refusedOne(check, c);
        }
        for (int c : new int[] {0, 10, -33, 128, 255, 'a' + 256, 'a' - 256}) {
            refusedOne(check, c);
        }
    }

    private static void refusedOne(Check check, int c) {
        Unchanged.by(check, "letter(" + c + ")", ReleaseDesk.REFUSED, desk -> desk.letter(c));
    }

    private static void refusedInAnEmptyPattern(Check check) {
        check.about(PROMISE, "REFUSED for another one");
        ReleaseDesk desk = new ReleaseDesk();
        check.same("letter(32)", desk.letter(32), ReleaseDesk.REFUSED);
        check.same("letter(127)", desk.letter(127), ReleaseDesk.REFUSED);
        check.same("the first one", desk.letter('a'), 1);
        check.same("letter(32)", desk.letter(32), ReleaseDesk.REFUSED);
        check.same("the second one", desk.letter('a'), 2);
    }

    private static void full(Check check) {
        check.about(PROMISE, "FULL if it has 12");
        Calls eleven = desk -> {
            desk.type(0, 7, 33, -1, 0);
            Told.spell(desk, "c.H.d(int,l");
        };
        ReleaseDesk desk = new ReleaseDesk();
        eleven.on(desk);
        check.same("the twelfth", desk.letter('*'), 12);
        check.same("counts", desk.fits(0, 7, Mode.METHOD, 11), 1);
        for (char twelfth : new char[] {'*', '?', 'x'}) {
            Calls twelve = made -> {
                eleven.on(made);
                made.letter(twelfth);
            };
            for (int c : new int[] {33, '*', '?', 'o', 126}) {
                Unchanged.after(twelve, check, "letter(" + c + ") as the thirteenth behind " + twelfth,
                    ReleaseDesk.FULL, made -> made.letter(c));
            }
        }
        check.same("the thirteenth", desk.letter('o'), ReleaseDesk.FULL);
        check.same("and again", desk.letter('o'), ReleaseDesk.FULL);
        check.same("the twelve stay", desk.fits(0, 7, Mode.METHOD, 11), 1);
    }

    private static void roomAgain(Check check) {
        check.about(PROMISE, "FULL if it has 12");
        ReleaseDesk desk = new ReleaseDesk();
        Told.spell(desk, "????????????");
        desk.clear();
        check.same("after clear", desk.letter('a'), 1);
        Told.spell(desk, "???????????");
        check.same("twelve again", desk.letter('a'), ReleaseDesk.FULL);
        desk.rule(1, 1, 1);
        check.same("after rule", desk.letter('a'), 1);
    }
}
