/** A run of calls on a desk. */
interface Calls {
    void on(ReleaseDesk desk);
}
