/** The numbers that the calls type and member take, by their names. */
final class Mode {
    static final int OLD = 0;
    static final int NEW = 1;

    static final boolean FIELD = false;
    static final boolean METHOD = true;

    static final int PUBLIC_TYPE = 1;
    static final int INTERFACE = 2;
    static final int ABSTRACT_TYPE = 4;
    static final int FINAL_TYPE = 8;
    static final int PACKAGE_B = 16;
    static final int PACKAGE_C = 32;

    static final int STATIC = 1;
    static final int ABSTRACT = 2;
    static final int FINAL = 4;
    static final int PRIVATE = 0;
    static final int PACKAGE = 8;
    static final int PROTECTED = 16;
    static final int PUBLIC = 24;

    private Mode() {
    }

    /** A desk with type 0 public in both builds. */
    static ReleaseDesk deskWithType() {
        ReleaseDesk desk = new ReleaseDesk();
        desk.type(OLD, 0, PUBLIC_TYPE, -1, 0);
        desk.type(NEW, 0, PUBLIC_TYPE, -1, 0);
        return desk;
    }
}
