/** Desks on which one change stands alone, that of type 0 (a.A) or of its member of sign 0. */
final class Single {
    static final int[] CODES = {1, 2, 3, 4, 5, 6, 7, 8, 9, 10, 11, 20, 21, 22, 23, 24, 25, 26, 27, 28,
        29, 30, 31, 32, 33};

    private static final int NOT_THERE = -1;

    private Single() {
    }

    static ReleaseDesk desk(int code) {
        int open = Mode.PUBLIC;
        switch (code) {
            case 1: return types(1, NOT_THERE);
            case 2: return types(1, 0);
            case 3: return types(NOT_THERE, 1);
            case 4: return types(1, 1 | Mode.PACKAGE_B);
            case 5: return types(1, 1 | Mode.INTERFACE);
            case 6: return types(1, 1 | Mode.ABSTRACT_TYPE);
            case 7: return types(1 | Mode.ABSTRACT_TYPE, 1);
            case 8: return types(1, 1 | Mode.FINAL_TYPE);
            case 9: return types(1 | Mode.FINAL_TYPE, 1);
            case 10: return supers(1, -1);
            case 11: return supers(-1, 1);
            case 20: return methods(open, NOT_THERE);
            case 21: return inherited();
            case 22: return methods(open, Mode.PROTECTED);
            case 23: return methods(NOT_THERE, open);
            case 24: return methods(NOT_THERE, open | Mode.ABSTRACT);
            case 25: return methods(Mode.PROTECTED, open);
            case 26: return methods(open, open | Mode.STATIC);
            case 27: return methods(open, open | Mode.FINAL);
            case 28: return methods(open | Mode.FINAL, open);
            case 29: return methods(open, open | Mode.ABSTRACT);
            case 30: return methods(open | Mode.ABSTRACT, open);
            case 31: return constants(true, true);
            case 32: return constants(true, false);
            default: return constants(false, true);
        }
    }

    /** The name of what changed. */
    static String name(int code) {
        return code < 20 ? "a.A" : code < 31 ? "a.A.a()" : "a.A.a:int";
    }

    static ReleaseDesk types(int old, int young) {
        ReleaseDesk desk = new ReleaseDesk();
        if (old != NOT_THERE) {
            desk.type(0, 0, old, -1, 0);
        }
        if (young != NOT_THERE) {
            desk.type(1, 0, young, -1, 0);
        }
        return desk;
    }

    private static ReleaseDesk supers(int old, int young) {
        ReleaseDesk desk = new ReleaseDesk();
        desk.type(0, 0, 1, old, 0);
        desk.type(0, 1, 1, -1, 0);
        desk.type(1, 0, 1, young, 0);
        desk.type(1, 1, 1, -1, 0);
        return desk;
    }

    private static ReleaseDesk methods(int old, int young) {
        return members(Mode.METHOD, old, young);
    }

    /** A type public in both builds with a member of these modes. */
    static ReleaseDesk members(boolean method, int old, int young) {
        ReleaseDesk desk = Mode.deskWithType();
        if (old != NOT_THERE) {
            desk.member(0, 0, method, 0, old);
        }
        if (young != NOT_THERE) {
            desk.member(1, 0, method, 0, young);
        }
        return desk;
    }

    private static ReleaseDesk inherited() {
        ReleaseDesk desk = new ReleaseDesk();
        desk.type(0, 0, 1, 1, 0);
        desk.type(0, 1, 1, -1, 0);
        desk.member(0, 0, Mode.METHOD, 0, Mode.PUBLIC);
        desk.member(0, 1, Mode.METHOD, 0, Mode.PUBLIC);
        desk.branch();
        desk.remove(1, 0, Mode.METHOD, 0);
        return desk;
    }

    private static ReleaseDesk constants(boolean had, boolean has) {
        ReleaseDesk desk = members(Mode.FIELD, Mode.PUBLIC, Mode.PUBLIC);
        if (had) {
            desk.constant(0, 0, 0, 1);
        }
        if (has) {
            desk.constant(1, 0, 0, 2);
        }
        return desk;
    }
}
