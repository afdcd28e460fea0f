/** One call on an object, with its answer. */
interface Call {
    int on(DoorsLocks x);
}
