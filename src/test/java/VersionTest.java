/** Promise 11. */
final class VersionTest {
    public static void main(String[] args) {
        Check check = new Check();
        ReleaseDesk desk = new ReleaseDesk();
        check.yes("a version", desk.version(12, 34, 56));
        check.same("counts", desk.advice(), 12034057);
        for (int wrong : new int[] {-1, 1000, Integer.MIN_VALUE, Integer.MAX_VALUE}) {
            check.no("wrong first", desk.version(wrong, 0, 0));
            check.no("wrong second", desk.version(0, wrong, 0));
            check.no("wrong third", desk.version(0, 0, wrong));
        }
        check.same("wrong ones change nothing", desk.advice(), 12034057);
        check.yes("the least", desk.version(0, 0, 0));
        check.same("least", desk.advice(), 1);
        check.yes("the greatest", desk.version(999, 999, 999));
        check.same("greatest", desk.advice(), 1000000000);
        check.end();
    }
}
