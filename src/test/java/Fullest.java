/**
 * A desk with as many changes as there can be, all of them in the list by their own weights: each
 * type has six, each of its members four. It has 497 calls behind it, so 15 are left.
 */
final class Fullest {
    static final int CHANGES = 8 * (6 + 24 * 4);

    // Of a type all but the one above that it won; of a method three, of a field two.
    static final int BREAKS = 8 * (5 + 12 * 3 + 12 * 2);

    // Of each field the constant that it lost.
    static final int WARNINGS = 8 * 12;

    private Fullest() {
    }

    static ReleaseDesk desk() {
        ReleaseDesk desk = new ReleaseDesk();
        for (int t = 0; t < 8; t++) {
            desk.type(0, t, Mode.PUBLIC_TYPE, t ^ 1, 0);
            for (int sign = 0; sign < 12; sign++) {
                desk.member(0, t, Mode.METHOD, sign, Mode.PROTECTED);
                desk.member(0, t, Mode.FIELD, sign, Mode.PROTECTED);
                desk.constant(0, t, sign, 1);
            }
        }
        desk.branch();
        int all = Mode.PACKAGE_B | Mode.PUBLIC_TYPE | Mode.INTERFACE | Mode.ABSTRACT_TYPE | Mode.FINAL_TYPE;
        for (int t = 0; t < 8; t++) {
            desk.type(1, t, all, t ^ 2, 0);
            for (int sign = 0; sign < 12; sign++) {
                desk.member(1, t, Mode.METHOD, sign, Mode.PUBLIC | Mode.STATIC | Mode.ABSTRACT | Mode.FINAL);
                desk.member(1, t, Mode.FIELD, sign, Mode.PUBLIC | Mode.STATIC | Mode.FINAL);
            }
        }
        return desk;
    }
}
