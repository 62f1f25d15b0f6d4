/** Promise 8. */
final class LetterTest {
    public static void main(String[] args) {
        Check check = new Check();
        ReleaseDesk desk = new ReleaseDesk();
        int[] wrong = {32, 127, 0, -1, 10, 255, 'a' + 65536, 'a' + 256,
            Integer.MIN_VALUE, Integer.MAX_VALUE};
        for (int c : wrong) {
            check.same("letter " + c, desk.letter(c), ReleaseDesk.REFUSED);
        }
        check.same("the first character", desk.letter(33), 1);
        check.same("the last character", desk.letter(126), 2);
        for (int k = 3; k <= 12; k++) {
            check.same("letter " + k, desk.letter('*'), k);
        }
        check.same("a thirteenth", desk.letter('a'), ReleaseDesk.FULL);
        check.same("again", desk.letter('a'), ReleaseDesk.FULL);
        check.same("a wrong one is refused first", desk.letter(32), ReleaseDesk.REFUSED);
        check.same("a rule takes the pattern", desk.rule(1, 1, 1), 1);
        check.same("then it begins anew", desk.letter('a'), 1);

        ReleaseDesk full = new ReleaseDesk();
        full.type(0, 0, 1, -1, 0);
        Told.spell(full, "a.A.a(int,lo");
        check.same("one too many", full.letter('n'), ReleaseDesk.FULL);
        check.same("adds nothing", full.fits(0, 0, true, 2), 0);
        full.clear();
        Told.spell(full, "a.A.a(int,l*");
        full.letter('x');
        check.same("nor does it take the last one's place", full.fits(0, 0, true, 2), 1);
        check.end();
    }
}
