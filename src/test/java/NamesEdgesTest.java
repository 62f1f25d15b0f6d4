/** NAMES, under 'Terms', for promises 15 and 18: the first and the last of each part. */
final class NamesEdgesTest {
    private static final String PROMISE = "Promise 15, Terms";
    private static final String[] FIELD_ENDS = {":int", ":long", ":double"};
    private static final String[] METHOD_ENDS = {"()", "(int)", "(int,long)"};

    public static void main(String[] args) {
        Check check = new Check();
        ofTypes(check);
        ofMembers(check);
        ofMembersInEachType(check);
        asPatternsFit(check);
        check.end();
    }

    private static void ofTypes(Check check) {
        check.about(PROMISE,
            "of TYPE t: a, b or c for its PACKAGE, a . and the letter number t of A to H");
        for (int flags = 1; flags < 48; flags += 16) {
            for (int t = 0; t < 8; t++) {
                ReleaseDesk desk = new ReleaseDesk();
                desk.type(0, t, flags, -1, 0);
                String name = "abc".charAt(flags / 16) + "." + "ABCDEFGH".charAt(t);
                check.text("type " + t, Told.lines(desk), "B " + name + " 1\n1 0 0");
                check.text("type " + t, Told.report(desk, true), "{\"changes\":[{\"w\":3,\"n\":\"" + name
                    + "\",\"c\":1}],\"advice\":\"2.0.0\"}");
            }
        }
    }

    private static void ofMembers(Check check) {
        check.about(PROMISE, "the letter number SIGN / 3 of a to d; then, by SIGN mod 3,"
            + " for a FIELD :int, :long or :double, for a METHOD (), (int) or (int,long)");
        for (int sign = 0; sign < 12; sign++) {
            named(check, 0, Mode.FIELD, sign, "a.A." + "abcd".charAt(sign / 3) + FIELD_ENDS[sign % 3]);
            named(check, 0, Mode.METHOD, sign, "a.A." + "abcd".charAt(sign / 3) + METHOD_ENDS[sign % 3]);
        }
    }

    private static void ofMembersInEachType(Check check) {
        check.about(PROMISE, "Of a MEMBER: that of its TYPE, a .,");
        for (int t = 0; t < 8; t++) {
            named(check, t, Mode.FIELD, 11, "a." + "ABCDEFGH".charAt(t) + ".d:double");
            named(check, t, Mode.METHOD, 0, "a." + "ABCDEFGH".charAt(t) + ".a()");
        }
    }

    private static void named(Check check, int t, boolean method, int sign, String name) {
        ReleaseDesk desk = new ReleaseDesk();
        desk.type(0, t, 1, -1, 0);
        desk.branch();
        desk.member(0, t, method, sign, Mode.PUBLIC);
        check.text("member " + sign, Told.lines(desk), "B " + name + " 20\n1 0 0");
        check.text("member " + sign, Told.report(desk, true), "{\"changes\":[{\"w\":3,\"n\":\"" + name
            + "\",\"c\":20}],\"advice\":\"2.0.0\"}");
    }

    private static void asPatternsFit(Check check) {
        check.about("Promise 18, Terms", "NAMES: of TYPE t");
        for (int sign = 0; sign < 12; sign++) {
            ReleaseDesk desk = new ReleaseDesk();
            desk.type(1, 7, 32, -1, 0);
            String name = "c.H." + "abcd".charAt(sign / 3) + METHOD_ENDS[sign % 3];
            Told.spell(desk, name.length() > 12 ? name.substring(0, 11) + "*" : name);
            check.same("the head of " + name, desk.fits(1, 7, Mode.METHOD, sign), 1);
            desk.clear();
            Told.spell(desk, "*" + name.substring(Math.max(0, name.length() - 11)));
            check.same("the tail of " + name, desk.fits(1, 7, Mode.METHOD, sign), 1);
            desk.clear();
            name = "c.H." + "abcd".charAt(sign / 3) + FIELD_ENDS[sign % 3];
            Told.spell(desk, name);
            check.same(name, desk.fits(1, 7, Mode.FIELD, sign), 1);
            check.same(name + " for the method", desk.fits(1, 7, Mode.METHOD, sign), 0);
        }
    }
}
