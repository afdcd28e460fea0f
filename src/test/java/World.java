/** The calls by which a world is made on a new object; made again, they give the same world. */
interface World {
    void make(DoorsLocks x);

    default World then(World more) {
        return x -> {
            make(x);
            more.make(x);
        };
    }

    default DoorsLocks made() {
        DoorsLocks x = new DoorsLocks();
        make(x);
        return x;
    }
}
