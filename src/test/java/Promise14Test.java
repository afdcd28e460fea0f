/** Promise 14: leave. */
final class Promise14Test extends Check {
    public static void main(String[] args) {
        outOfACarAndABox();
        withinNothing();
        thatIsShut();
        onlyThatOne();
        elsewhere();
        noBeing();
        end();
    }

    /** A CAR, a BOX, beings 0 and 1. */
    private static World world() {
        return Worlds.rooms(2).then(x -> {
            x.thing(0, CAR, 1);
            x.thing(0, BOX, 1);
            x.exit(0, 0, 1);
            x.being(0);
            x.being(0);
        });
    }

    private static World within(int thing) {
        return world().then(x -> due("14 climbs in", x.handle(0, CLIMB, thing), 1));
    }

    private static void outOfACarAndABox() {
        for (int thing : new int[] {0, 1}) {
            DoorsLocks x = within(thing).made();
            due("14 climbs out", x.leave(0), 1);
            due("14 within nothing", x.beingIs(0, WITHIN), NO_SUCH);
            due("14 in the same ROOM", x.beingIs(0, ROOM), 0);
            due("14 it did not go", x.beingIs(0, CAME), NO_SUCH);
            due("14 nobody is told", x.beingIs(1, NEWS), 0);
            due("14 and in again", x.handle(0, CLIMB, thing), 1);
        }
    }

    private static void withinNothing() {
        refused("14 never was", world(), x -> x.leave(0), -23);
        refused("14 not any more", within(0).then(x -> x.leave(0)), x -> x.leave(0), -23);
        refused("14 another one is", within(0), x -> x.leave(1), -23);
        refused("14 another one is SHUT in", within(1).then(x -> x.handle(1, SHUT, 1)), x -> x.leave(1), -23);
    }

    private static void thatIsShut() {
        for (int who : new int[] {0, 1}) {
            World shut = within(1).then(x -> due("14 shuts, from within or not", x.handle(who, SHUT, 1), 1));
            refused("14 SHUT", shut, x -> x.leave(0), -21);
            World open = shut.then(x -> due("14 opens", x.handle(who, OPEN, 1), 1));
            due("14 not SHUT any more", open.made().leave(0), 1);
        }
        World other = within(0).then(x -> due("14 shuts another", x.handle(1, SHUT, 1), 1));
        due("14 another one is SHUT", other.made().leave(0), 1);
    }

    private static void onlyThatOne() {
        DoorsLocks x = within(0).made();
        x.handle(1, CLIMB, 0);
        due("14 climbs out", x.leave(0), 1);
        due("14 the other one stays within", x.beingIs(1, WITHIN), 0);
    }

    private static void elsewhere() {
        DoorsLocks x = within(0).made();
        x.go(0, 0);
        due("14 climbs out", x.leave(0), 1);
        due("14 where the CAR is now", x.beingIs(0, ROOM), 1);
        due("14 where the CAR is now", x.thingIs(0, PLACE), 1);
    }

    private static void noBeing() {
        badOutside("14 no being", Worlds::small, 0, Worlds.SMALL_BEINGS - 1, who -> x -> x.leave(who));
        badOutside("14 no being", Worlds::full, 0, 5, who -> x -> x.leave(who));
        badOutside("14 no being", Worlds::empty, 0, -1, who -> x -> x.leave(who));
    }
}
