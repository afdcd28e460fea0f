/** Promise 10: floats. */
final class Promise10Test extends Check {
    public static void main(String[] args) {
        firstAndLastRegion();
        inAllRoomsAndInNoOthers();
        inARegionWithoutRooms();
        inAnotherRegionFromNowOn();
        notHeavy();
        noThing();
        noRegion();
        end();
    }

    /** A being in each of the first ROOMS, and a HEAVY THING in ROOM 0. */
    private static DoorsLocks ofOneInEachRoom() {
        DoorsLocks x = Worlds.ofRooms(6);
        x.thing(0, HEAVY, 9);
        for (int room = 0; room < 6; room++) {
            x.being(room);
        }
        return x;
    }

    private static void dueIn(String what, DoorsLocks x, boolean... inRoom) {
        for (int room = 0; room < 6; room++) {
            due(what + ", ROOM " + room, x.here(room, HERE_THING, 0), inRoom[room]);
        }
    }

    private static void firstAndLastRegion() {
        for (int region = 0; region <= 6; region++) {
            DoorsLocks x = ofOneInEachRoom();
            due("10 does not FLOAT yet", x.thingIs(0, FLOATS_IN), NO_SUCH);
            due("10 FLOATs", x.floats(0, region), 1);
            due("10 in that REGION", x.thingIs(0, FLOATS_IN), region);
            due("10 again", x.floats(0, region), 1);
        }
        DoorsLocks x = Worlds.ofRooms(1);
        for (int i = 0; i < 30; i++) {
            x.thing(0, HEAVY, 1);
        }
        due("10 the last THING", x.floats(29, 6), 1);
        due("10 the last THING", x.thingIs(29, FLOATS_IN), 6);
        due("10 no other one", x.thingIs(28, FLOATS_IN), NO_SUCH);
    }

    private static void inAllRoomsAndInNoOthers() {
        DoorsLocks x = ofOneInEachRoom();
        x.region(3, 1, true);
        x.region(3, 5, true);
        dueIn("10 does not FLOAT yet", x, true, false, false, false, false, false);
        x.floats(0, 3);
        dueIn("10 where the REGION is, not where it was made", x, false, true, false, false, false, true);
        x.region(3, 0, true);
        dueIn("10 a ROOM more", x, true, true, false, false, false, true);
        x.region(3, 1, false);
        dueIn("10 a ROOM less", x, true, false, false, false, false, true);
        for (int room = 0; room < 6; room++) {
            x.region(3, room, true);
        }
        dueIn("10 in all", x, true, true, true, true, true, true);
    }

    private static void inARegionWithoutRooms() {
        DoorsLocks x = ofOneInEachRoom();
        x.floats(0, 2);
        dueIn("10 in no ROOM at all", x, false, false, false, false, false, false);
        due("10 in no ROOM at all", x.thingIs(0, PLACE), NO_SUCH);
        x.region(2, 4, true);
        dueIn("10 in its first", x, false, false, false, false, true, false);
        x.region(2, 4, false);
        due("10 in none again", x.thingIs(0, PLACE), NO_SUCH);
    }

    private static void inAnotherRegionFromNowOn() {
        DoorsLocks x = ofOneInEachRoom();
        x.region(0, 1, true);
        x.region(6, 2, true);
        x.floats(0, 0);
        due("10 in another one", x.floats(0, 6), 1);
        dueIn("10 no more in the first one", x, false, false, true, false, false, false);
    }

    private static void notHeavy() {
        World sorts = Worlds.rooms(1).then(x -> {
            for (int sort = SMALL; sort <= BOX; sort++) {
                x.thing(0, sort, 1);
            }
            x.being(0);
            x.region(0, 0, true);
        });
        for (int thing : new int[] {SMALL, CAR, BOX}) {
            refused("10 not HEAVY: " + thing, sorts, x -> x.floats(thing, 0), BAD);
        }
        refused("10 not HEAVY, held", sorts.then(x -> x.handle(0, TAKE, SMALL)), x -> x.floats(SMALL, 0), BAD);
    }

    private static void noThing() {
        badOutside("10 no THING", Worlds::small, 0, Worlds.SMALL_THINGS - 1, thing -> x -> x.floats(thing, 0));
        badOutside("10 no THING", Worlds::full, 0, 29, thing -> x -> x.floats(thing, 0));
    }

    private static void noRegion() {
        badOutside("10 no REGION", Worlds::small, 0, 6, region -> x -> x.floats(3, region));
        badOutside("10 no REGION, it FLOATs", Worlds::small, 0, 6, region -> x -> x.floats(4, region));
    }
}
