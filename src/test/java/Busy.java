/** A desk on which all that it can hold stands: types of every sort, members, rules, a pattern, a version. */
final class Busy {
    private Busy() {
    }

    static void fill(ReleaseDesk desk) {
        fillOld(desk);
        desk.branch();
        changeNew(desk);
        Told.rule(desk, "*()", 20, 24, 2);
        Told.rule(desk, "b.?", 4, 8, 1);
        desk.version(4, 5, 6);
        Told.spell(desk, "b.?.*");
    }

    private static void fillOld(ReleaseDesk desk) {
        desk.type(0, 0, Mode.PACKAGE_B | Mode.PUBLIC_TYPE, 1, 1 << 2);
        desk.type(0, 1, Mode.PUBLIC_TYPE | Mode.ABSTRACT_TYPE, -1, 0);
        desk.type(0, 2, Mode.PACKAGE_C | Mode.PUBLIC_TYPE | Mode.INTERFACE, -1, 0);
        desk.type(0, 7, Mode.FINAL_TYPE, 0, 1);
        desk.member(0, 0, Mode.FIELD, 0, Mode.PUBLIC | Mode.STATIC);
        desk.constant(0, 0, 0, 1.5);
        desk.member(0, 0, Mode.METHOD, 0, Mode.PUBLIC);
        desk.member(0, 0, Mode.METHOD, 11, Mode.PROTECTED | Mode.FINAL);
        desk.member(0, 1, Mode.METHOD, 11, Mode.PUBLIC | Mode.ABSTRACT);
        desk.member(0, 2, Mode.FIELD, 11, Mode.PUBLIC | Mode.FINAL);
        desk.constant(0, 2, 11, -2);
        desk.member(0, 7, Mode.METHOD, 5, Mode.PRIVATE);
    }

    private static void changeNew(ReleaseDesk desk) {
        desk.type(1, 0, Mode.PACKAGE_B | Mode.PUBLIC_TYPE | Mode.FINAL_TYPE, 1, 0);
        desk.constant(1, 0, 0, 4);
        desk.remove(1, 0, Mode.METHOD, 0);
        desk.member(1, 0, Mode.METHOD, 6, Mode.PUBLIC | Mode.ABSTRACT);
        desk.type(1, 3, Mode.PUBLIC_TYPE, 2, 0);
        desk.member(1, 3, Mode.FIELD, 3, Mode.PUBLIC);
    }
}
