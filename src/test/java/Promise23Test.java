/** Promise 23: thingIs. */
final class Promise23Test extends Check {
    public static void main(String[] args) {
        itsRoom();
        whoHoldsIt();
        theLeastOfItsRegion();
        itsSortAndSize();
        whetherItIsShut();
        inWhichRegionItFloats();
        noThing();
        noWhat();
        isOnlyAsked();
        end();
    }

    private static void itsRoom() {
        DoorsLocks x = Worlds.ofRooms(20);
        for (int i = 0; i < 30; i++) {
            x.thing(i % 20, i % 4, 1);
        }
        for (int i = 0; i < 30; i++) {
            due("23 its ROOM", x.thingIs(i, PLACE), i % 20);
        }
    }

    private static void whoHoldsIt() {
        DoorsLocks x = Worlds.ofRooms(20);
        for (int who = 0; who < 6; who++) {
            x.thing(19, SMALL, 1);
            x.being(19);
            x.handle(who, TAKE, who);
        }
        for (int who = 0; who < 6; who++) {
            due("23 100 and its number", x.thingIs(who, PLACE), 100 + who);
            x.handle(who, DROP, who);
            due("23 its ROOM again", x.thingIs(who, PLACE), 19);
        }
    }

    private static void theLeastOfItsRegion() {
        DoorsLocks x = Worlds.ofRooms(20);
        x.thing(7, HEAVY, 1);
        x.floats(0, 6);
        due("23 it has none", x.thingIs(0, PLACE), NO_SUCH);
        for (int room : new int[] {19, 18, 5, 0}) {
            x.region(6, room, true);
            due("23 the least", x.thingIs(0, PLACE), room);
        }
        x.region(6, 7, true);
        due("23 the least still", x.thingIs(0, PLACE), 0);
        for (int room : new int[] {0, 5, 7, 18}) {
            x.region(6, room, false);
        }
        due("23 the only one left", x.thingIs(0, PLACE), 19);
        x.region(6, 19, false);
        due("23 none is left", x.thingIs(0, PLACE), NO_SUCH);
    }

    private static void itsSortAndSize() {
        DoorsLocks x = Worlds.ofRooms(1);
        for (int size = 1; size <= 9; size++) {
            for (int sort = SMALL; sort < BOX; sort++) {
                int thing = x.thing(0, sort, size);
                due("23 its SORT", x.thingIs(thing, SORT), sort);
                due("23 its SIZE", x.thingIs(thing, SIZE), size);
            }
        }
        due("23 the SORT of a BOX", x.thingIs(x.thing(0, BOX, 9), SORT), BOX);
    }

    private static void whetherItIsShut() {
        DoorsLocks x = Worlds.ofRooms(1);
        x.being(0);
        for (int sort = SMALL; sort <= BOX; sort++) {
            due("23 not SHUT", x.thingIs(x.thing(0, sort, 1), IS_SHUT), 0);
        }
        x.handle(0, SHUT, BOX);
        due("23 SHUT", x.thingIs(BOX, IS_SHUT), 1);
        x.handle(0, OPEN, BOX);
        due("23 not SHUT any more", x.thingIs(BOX, IS_SHUT), 0);
    }

    private static void inWhichRegionItFloats() {
        DoorsLocks x = Worlds.ofRooms(1);
        for (int sort = SMALL; sort <= BOX; sort++) {
            due("23 in none", x.thingIs(x.thing(0, sort, 1), FLOATS_IN), NO_SUCH);
        }
        for (int region : new int[] {0, 6, 3, 0}) {
            x.floats(HEAVY, region);
            due("23 in that", x.thingIs(HEAVY, FLOATS_IN), region);
        }
    }

    private static void noThing() {
        for (int what = PLACE; what <= FLOATS_IN; what++) {
            int asked = what;
            badOutside("23 no THING", Worlds::small, 0, Worlds.SMALL_THINGS - 1, thing -> x -> x.thingIs(thing, asked));
            badOutside("23 no THING", Worlds::full, 0, 29, thing -> x -> x.thingIs(thing, asked));
        }
    }

    private static void noWhat() {
        for (int thing = 0; thing < Worlds.SMALL_THINGS; thing++) {
            int of = thing;
            badOutside("23 no what", Worlds::small, PLACE, FLOATS_IN, what -> x -> x.thingIs(of, what));
        }
    }

    private static void isOnlyAsked() {
        for (int what = PLACE; what <= FLOATS_IN; what++) {
            int asked = what;
            changesNothing("23 a question", Worlds::small, x -> x.thingIs(4, asked));
        }
    }
}
