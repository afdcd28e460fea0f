/** Promise 7: region. */
final class Promise07Test extends Check {
    public static void main(String[] args) {
        howManyItHas();
        allRooms();
        comesTwiceIsTakenOutTwice();
        eachRegionItsOwn();
        noRegion();
        noRoom();
        end();
    }

    private static void howManyItHas() {
        DoorsLocks x = Worlds.ofRooms(20);
        due("7 none is there, none is taken out", x.region(6, 0, false), 0);
        due("7 the greatest ROOM", x.region(6, 19, true), 1);
        due("7 the least ROOM", x.region(6, 0, true), 2);
        due("7 taken out", x.region(6, 19, false), 1);
        due("7 the last one taken out", x.region(6, 0, false), 0);
    }

    private static void allRooms() {
        DoorsLocks x = Worlds.ofRooms(20);
        for (int room = 19; room >= 0; room--) {
            due("7 one more", x.region(0, room, true), 20 - room);
        }
        for (int room = 0; room < 20; room++) {
            due("7 one less", x.region(0, room, false), 19 - room);
        }
    }

    private static void comesTwiceIsTakenOutTwice() {
        DoorsLocks x = Worlds.ofRooms(3);
        x.region(3, 0, true);
        due("7 in", x.region(3, 2, true), 2);
        due("7 in already", x.region(3, 2, true), 2);
        due("7 out", x.region(3, 2, false), 1);
        due("7 out already", x.region(3, 2, false), 1);
        due("7 never in", x.region(3, 1, false), 1);
    }

    private static void eachRegionItsOwn() {
        DoorsLocks x = Worlds.ofRooms(7);
        int heavy = x.thing(0, HEAVY, 1);
        for (int region = 0; region <= 6; region++) {
            due("7 its first", x.region(region, region, true), 1);
        }
        for (int region = 0; region <= 6; region++) {
            x.floats(heavy, region);
            due("7 its own ROOM", x.thingIs(heavy, PLACE), region);
        }
        due("7 a ROOM of two REGIONS", x.region(0, 6, true), 2);
        due("7 taken out of one", x.region(0, 6, false), 1);
        due("7 not out of the other", x.region(6, 6, true), 1);
    }

    private static void noRegion() {
        for (boolean in : NO_AND_YES) {
            badOutside("7 no REGION", Worlds::small, 0, 6, region -> x -> x.region(region, 1, in));
            badOutside("7 no REGION", Worlds::full, 0, 6, region -> x -> x.region(region, 19, in));
        }
    }

    private static void noRoom() {
        for (boolean in : NO_AND_YES) {
            badOutside("7 no ROOM", Worlds::small, 0, Worlds.SMALL_ROOMS - 1, room -> x -> x.region(2, room, in));
            badOutside("7 no ROOM", Worlds::full, 0, 19, room -> x -> x.region(6, room, in));
        }
    }
}
