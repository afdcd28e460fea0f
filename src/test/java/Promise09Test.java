/** Promise 9: thing. */
final class Promise09Test extends Check {
    public static void main(String[] args) {
        numbersFromNoughtOn();
        leastAndGreatest();
        aBoxIsNotShut();
        noRoom();
        noSort();
        noSize();
        full();
        badAheadOfFull();
        end();
    }

    private static World ofThings(int things) {
        return Worlds.rooms(2).then(x -> {
            for (int i = 0; i < things; i++) {
                x.thing(0, i % 4, 1);
            }
        });
    }

    private static void numbersFromNoughtOn() {
        DoorsLocks x = Worlds.ofRooms(2);
        for (int i = 0; i < 30; i++) {
            due("9 not there yet", x.thingIs(i, PLACE), BAD);
            due("9 its number", x.thing(i % 2, i % 4, i % 9 + 1), i);
            due("9 one more", x.count(2), i + 1);
        }
        for (int i = 0; i < 30; i++) {
            due("9 its ROOM", x.thingIs(i, PLACE), i % 2);
            due("9 its SORT", x.thingIs(i, SORT), i % 4);
            due("9 its SIZE", x.thingIs(i, SIZE), i % 9 + 1);
        }
        due("9 behind the last there is none", x.thingIs(30, PLACE), BAD);
    }

    private static void leastAndGreatest() {
        for (int room : new int[] {0, 19}) {
            for (int sort = SMALL; sort <= BOX; sort++) {
                for (int size : new int[] {1, 9}) {
                    DoorsLocks x = Worlds.ofRooms(20);
                    due("9 its number", x.thing(room, sort, size), 0);
                    due("9 its ROOM", x.thingIs(0, PLACE), room);
                    due("9 its SORT", x.thingIs(0, SORT), sort);
                    due("9 its SIZE", x.thingIs(0, SIZE), size);
                    due("9 it does not FLOAT", x.thingIs(0, FLOATS_IN), NO_SUCH);
                }
            }
        }
    }

    private static void aBoxIsNotShut() {
        DoorsLocks x = Worlds.ofRooms(1);
        x.thing(0, BOX, 1);
        x.being(0);
        due("9 not SHUT", x.thingIs(0, IS_SHUT), 0);
        due("9 can be climbed into", x.handle(0, CLIMB, 0), 1);
    }

    private static void noRoom() {
        badOutside("9 no ROOM", Worlds::small, 0, Worlds.SMALL_ROOMS - 1, room -> x -> x.thing(room, SMALL, 1));
        badOutside("9 no ROOM", Worlds.rooms(20), 0, 19, room -> x -> x.thing(room, BOX, 9));
    }

    private static void noSort() {
        badOutside("9 no SORT", Worlds::small, SMALL, BOX, sort -> x -> x.thing(0, sort, 1));
        badOutside("9 no SORT", Worlds.rooms(20), SMALL, BOX, sort -> x -> x.thing(19, sort, 9));
    }

    private static void noSize() {
        for (int sort = SMALL; sort <= BOX; sort++) {
            int ofSort = sort;
            badOutside("9 no SIZE", Worlds::small, 1, 9, size -> x -> x.thing(0, ofSort, size));
        }
    }

    private static void full() {
        for (int sort = SMALL; sort <= BOX; sort++) {
            int ofSort = sort;
            due("9 the thirtieth finds room", ofThings(29).made().thing(0, ofSort, 1), 29);
            refused("9 no more", ofThings(30), x -> x.thing(0, ofSort, 1), FULL);
        }
        refused("9 no more of anything", Worlds::full, x -> x.thing(19, SMALL, 9), FULL);
    }

    private static void badAheadOfFull() {
        badOutside("9 BAD ahead of FULL: no ROOM", ofThings(30), 0, 1, room -> x -> x.thing(room, SMALL, 1));
        badOutside("9 BAD ahead of FULL: no SORT", ofThings(30), SMALL, BOX, sort -> x -> x.thing(0, sort, 1));
        badOutside("9 BAD ahead of FULL: no SIZE", ofThings(30), 1, 9, size -> x -> x.thing(0, SMALL, size));
    }
}
