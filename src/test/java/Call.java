/** One call on a desk with its answer, which counts 1 for true and 0 for false. */
interface Call {
    long on(ReleaseDesk desk);
}
