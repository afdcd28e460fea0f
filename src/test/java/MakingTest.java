/** Promises 1 to 11: a new object, and the making. */
final class MakingTest {
    private static final int BAD = Check.BAD, FULL = Check.FULL, NO_SUCH = Check.NO_SUCH;

    public static void main(String[] args) {
        newObject();
        room();
        door();
        exit();
        exitWrong();
        width();
        turn();
        region();
        lock();
        thing();
        floats();
        being();
        Check.end();
    }

    private static void newObject() {
        DoorsLocks x = new DoorsLocks();
        for (int what = 0; what <= 5; what++) {
            Check.due("1 nothing is there, " + what, x.count(what), 0);
        }
        Check.due("1 no WAY", x.way(0, 0), BAD);
        Check.due("1 no DOOR", x.state(0), BAD);
        Check.due("1 no THING", x.thingIs(0, 0), BAD);
        Check.due("1 no being", x.beingIs(0, 0), BAD);
        Check.due("1 no ROUTE", x.route(0, 0, -1), BAD);
        DoorsLocks other = Check.worldOfRooms(1);
        Check.due("1 another object's ROOM", other.count(0), 1);
        Check.due("1 objects share nothing", x.count(0), 0);
    }

    private static void room() {
        DoorsLocks x = Check.worldOfRooms(20);
        Check.due("2 the twentieth ROOM is there", x.beingIs(x.being(19), 0), 19);
        Check.due("2 no more ROOMS", x.room(), FULL);
        Check.due("2 refused, still twenty", x.count(0), 20);
        for (int direction = 0; direction < 8; direction++) {
            Check.due("2 without WAYS", x.way(19, direction), -1);
        }
        Check.due("2 without WAYS", x.count(4), 0);
        Check.due("2 behind the last there is none", x.being(20), BAD);
    }

    private static void door() {
        DoorsLocks x = Check.worldOfRooms(3);
        Check.due("3 two SIDES", x.door(0, 2), 0);
        Check.due("3 neither OPEN nor LOCKED, no KEY", x.state(0), 8);
        Check.due("3 one SIDE", x.door(2, -1), 1);
        Check.due("3 one SIDE", x.state(1), 0);
        Check.due("3 the same SIDES", x.door(1, 1), BAD);
        Check.due("3 no first SIDE", x.door(-1, 1), BAD);
        Check.due("3 no SIDE at all", x.door(-1, -1), BAD);
        Check.due("3 a ROOM that is not there", x.door(3, 0), BAD);
        Check.due("3 a ROOM that is not there", x.door(0, 3), BAD);
        Check.due("3 below -1", x.door(0, -2), BAD);
        Check.due("3 refused", x.count(1), 2);
        for (int i = 2; i < 15; i++) {
            Check.due("3 number", x.door(0, 1), i);
        }
        Check.due("3 no more", x.door(0, 1), FULL);
        Check.due("3 BAD ahead of FULL", x.door(1, 1), BAD);
        Check.due("3 refused", x.count(1), 15);
        Check.due("3 the last is there", x.state(14), 8);
        Check.due("3 behind the last there is none", x.state(15), BAD);
    }

    private static void exit() {
        DoorsLocks x = Check.worldOfRooms(3);
        x.door(0, 1);
        x.door(2, -1);
        Check.due("4 to a ROOM", x.exit(0, 0, 2), -1);
        Check.due("4 by a DOOR", x.exit(0, 0, 100), 2);
        Check.due("4 BLOCKED by text 0", x.exit(0, 0, 200), 100);
        Check.due("4 BLOCKED by text 49", x.exit(0, 0, 249), 200);
        Check.due("4 by RULE 0", x.exit(0, 0, 300), 249);
        Check.due("4 by RULE 4", x.exit(0, 0, 304), 300);
        Check.due("4 none", x.exit(0, 0, -1), 304);
        Check.due("4 was none", x.exit(0, 0, 0), -1);
        Check.due("4 to itself", x.way(0, 0), 0);
        Check.due("4 the other SIDE's WAY", x.exit(1, 7, 100), -1);
        Check.due("4 another WAY", x.way(1, 7), 100);
        Check.due("4 only that one", x.way(1, 6), -1);
        Check.due("4 a DOOR with one SIDE", x.exit(2, 7, 101), -1);
        Check.due("4 is told", x.way(2, 7), 101);
    }

    private static void exitWrong() {
        DoorsLocks x = Check.worldOfRooms(3);
        x.door(0, 1);
        x.door(2, -1);
        for (int room = 0; room < 3; room++) {
            x.exit(room, 0, 1);
        }
        int[] wrong = {-2, 3, 19, 20, 99, 101, 102, 199, 250, 299, 305, 399, 400, Integer.MAX_VALUE,
            Integer.MIN_VALUE};
        for (int way : wrong) {
            Check.due("4 no WAY: " + way, x.exit(0, 0, way), BAD);
            Check.due("4 refused", x.way(0, 0), 1);
        }
        Check.due("4 no SIDE of that DOOR", x.exit(2, 0, 100), BAD);
        Check.due("4 no SIDE of that DOOR", x.exit(1, 0, 101), BAD);
        Check.due("4 refused", x.way(2, 0), 1);
        for (int wild : new int[] {-1, 3, 20, Integer.MAX_VALUE, Integer.MIN_VALUE}) {
            Check.due("4 no ROOM", x.exit(wild, 1, 0), BAD);
        }
        for (int wild : new int[] {-1, 8, Integer.MAX_VALUE, Integer.MIN_VALUE}) {
            Check.due("4 no DIRECTION", x.exit(1, wild, 0), BAD);
        }
        Check.due("4 refused", x.count(4), 3);
    }

    private static void width() {
        DoorsLocks x = Check.worldOfRooms(2);
        Check.due("5 at first 9", x.width(0, 0, 1), 9);
        Check.due("5 what it was", x.width(0, 0, 9), 1);
        Check.due("5 what it was", x.width(0, 0, 4), 9);
        Check.due("5 of another WAY", x.width(0, 7, 3), 9);
        Check.due("5 of another ROOM's WAY", x.width(1, 0, 3), 9);
        x.exit(0, 0, 1);
        x.exit(0, 0, -1);
        Check.due("5 it stays when the WAY is told anew", x.width(0, 0, 4), 4);
        for (int wild : new int[] {0, 10, -1, Integer.MAX_VALUE, Integer.MIN_VALUE}) {
            Check.due("5 no WIDTH", x.width(0, 0, wild), BAD);
        }
        Check.due("5 no ROOM", x.width(2, 0, 5), BAD);
        Check.due("5 no ROOM", x.width(-1, 7, 5), BAD);
        Check.due("5 no DIRECTION", x.width(0, 8, 5), BAD);
        Check.due("5 no DIRECTION", x.width(1, -1, 5), BAD);
        Check.due("5 refused", x.width(0, 0, 4), 4);
        Check.due("5 refused", x.width(0, 7, 3), 3);
        Check.due("5 refused", x.width(1, 0, 3), 3);
    }

    private static void turn() {
        DoorsLocks x = Check.worldOfRooms(2);
        x.exit(0, 0, 304);
        Check.due("6 one", x.turn(4, 1), 1);
        Check.due("6 the first one's turn", x.leads(0, 0), 1);
        Check.due("6 two", x.turn(4, 0), 2);
        Check.due("6 at the end of the row", x.leads(0, 0), 1);
        Check.due("6 a ROOM twice", x.turn(4, 0), 3);
        Check.due("6 four", x.turn(4, 1), 4);
        Check.due("6 no more", x.turn(4, 1), FULL);
        Check.due("6 BAD ahead of FULL", x.turn(4, 2), BAD);
        Check.due("6 another RULE", x.turn(0, 1), 1);
        Check.due("6 no RULE", x.turn(5, 1), BAD);
        Check.due("6 no RULE", x.turn(-1, 1), BAD);
        Check.due("6 no ROOM", x.turn(0, 2), BAD);
        Check.due("6 no ROOM", x.turn(0, -1), BAD);
        Check.due("6 refused", x.turn(0, 0), 2);
    }

    private static void region() {
        DoorsLocks x = Check.worldOfRooms(20);
        Check.due("7 taken out that is not in", x.region(6, 3, false), 0);
        Check.due("7 in", x.region(6, 19, true), 1);
        Check.due("7 in again", x.region(6, 19, true), 1);
        Check.due("7 two", x.region(6, 0, true), 2);
        Check.due("7 another REGION", x.region(0, 5, true), 1);
        Check.due("7 out", x.region(6, 0, false), 1);
        Check.due("7 no REGION", x.region(7, 0, true), BAD);
        Check.due("7 no REGION", x.region(-1, 0, true), BAD);
        Check.due("7 no ROOM", x.region(6, 20, true), BAD);
        Check.due("7 no ROOM", x.region(6, 32, true), BAD);
        Check.due("7 no ROOM", x.region(6, -1, true), BAD);
        Check.due("7 refused", x.region(6, 19, true), 1);
        for (int room = 0; room < 20; room++) {
            Check.due("7 all", x.region(3, room, true), room + 1);
        }
        Check.due("7 a ROOM that is not made yet", Check.worldOfRooms(1).region(0, 1, true), BAD);
    }

    private static void lock() {
        DoorsLocks x = Check.worldOfRooms(2);
        x.door(0, 1);
        for (int sort = 0; sort <= 3; sort++) {
            x.thing(0, sort, 1);
        }
        Check.due("8 a KEY, not LOCKED", x.lock(0, 0, false), 1);
        Check.due("8 a KEY, not LOCKED", x.state(0), 12);
        Check.due("8 a KEY, LOCKED", x.lock(0, 0, true), 1);
        Check.due("8 a KEY, LOCKED", x.state(0), 14);
        for (int sort = 1; sort <= 3; sort++) {
            Check.due("8 not SMALL", x.lock(0, sort, true), BAD);
            Check.due("8 not SMALL", x.lock(0, sort, false), BAD);
        }
        Check.due("8 LOCKED without KEY", x.lock(0, -1, true), BAD);
        Check.due("8 no THING", x.lock(0, 4, false), BAD);
        Check.due("8 no THING", x.lock(0, -2, false), BAD);
        Check.due("8 no DOOR", x.lock(1, 0, true), BAD);
        Check.due("8 no DOOR", x.lock(-1, 0, true), BAD);
        Check.due("8 refused", x.state(0), 14);
        Check.due("8 no KEY", x.lock(0, -1, false), 1);
        Check.due("8 no KEY", x.state(0), 8);
        x.being(0);
        x.act(0, Check.OPEN_DOOR, 0);
        x.lock(0, 0, true);
        Check.due("8 OPEN and LOCKED", x.state(0), 15);
    }

    private static void thing() {
        DoorsLocks x = Check.worldOfRooms(2);
        for (int sort = 0; sort <= 3; sort++) {
            Check.due("9 number", x.thing(1, sort, sort == 3 ? 9 : 1), sort);
            Check.due("9 its ROOM", x.thingIs(sort, 0), 1);
            Check.due("9 its SORT", x.thingIs(sort, 1), sort);
            Check.due("9 its SIZE", x.thingIs(sort, 2), sort == 3 ? 9 : 1);
            Check.due("9 not SHUT", x.thingIs(sort, 3), 0);
            Check.due("9 does not FLOAT", x.thingIs(sort, 4), NO_SUCH);
        }
        Check.due("9 no ROOM", x.thing(2, 0, 1), BAD);
        Check.due("9 no ROOM", x.thing(-1, 0, 1), BAD);
        Check.due("9 no SORT", x.thing(0, 4, 1), BAD);
        Check.due("9 no SORT", x.thing(0, -1, 1), BAD);
        Check.due("9 no SIZE", x.thing(0, 0, 0), BAD);
        Check.due("9 no SIZE", x.thing(0, 0, 10), BAD);
        Check.due("9 refused", x.count(2), 4);
        for (int i = 4; i < 30; i++) {
            Check.due("9 number", x.thing(0, 0, 1), i);
        }
        Check.due("9 no more", x.thing(0, 0, 1), FULL);
        Check.due("9 BAD ahead of FULL", x.thing(0, 0, 0), BAD);
        Check.due("9 refused", x.count(2), 30);
        Check.due("9 behind the last there is none", x.thingIs(30, 0), BAD);
    }

    private static void floats() {
        DoorsLocks x = Check.worldOfRooms(3);
        for (int sort = 0; sort <= 3; sort++) {
            x.thing(0, sort, 1);
        }
        x.being(0);
        x.being(2);
        Check.due("10 FLOATs", x.floats(1, 6), 1);
        Check.due("10 in no ROOM of no REGION", x.here(0, 1, 1), false);
        Check.due("10 nowhere", x.thingIs(1, 0), NO_SUCH);
        x.region(6, 2, true);
        x.region(6, 1, true);
        Check.due("10 in all ROOMS of the REGION", x.here(1, 1, 1), true);
        Check.due("10 and in no others", x.here(0, 1, 1), false);
        Check.due("10 the least", x.thingIs(1, 0), 1);
        x.region(6, 1, false);
        Check.due("10 the least", x.thingIs(1, 0), 2);
        Check.due("10 in another REGION", x.floats(1, 0), 1);
        Check.due("10 in another REGION", x.thingIs(1, 4), 0);
        Check.due("10 no more in the old one", x.here(1, 1, 1), false);
        for (int sort : new int[] {0, 2, 3}) {
            Check.due("10 not HEAVY", x.floats(sort, 0), BAD);
            Check.due("10 refused", x.thingIs(sort, 4), NO_SUCH);
        }
        Check.due("10 no THING", x.floats(4, 0), BAD);
        Check.due("10 no THING", x.floats(-1, 0), BAD);
        Check.due("10 no REGION", x.floats(1, 7), BAD);
        Check.due("10 no REGION", x.floats(1, -1), BAD);
        Check.due("10 refused", x.thingIs(1, 4), 0);
    }

    private static void being() {
        DoorsLocks x = Check.worldOfRooms(2);
        Check.due("11 no ROOM", x.being(2), BAD);
        Check.due("11 no ROOM", x.being(-1), BAD);
        for (int i = 0; i < 6; i++) {
            Check.due("11 number", x.being(1), i);
            Check.due("11 its ROOM", x.beingIs(i, 0), 1);
            Check.due("11 within nothing", x.beingIs(i, 1), NO_SUCH);
            Check.due("11 CAME from none", x.beingIs(i, 2), NO_SUCH);
            Check.due("11 holds nothing", x.beingIs(i, 3), 0);
            Check.due("11 no NEWS", x.beingIs(i, 4), 0);
        }
        Check.due("11 no more", x.being(1), FULL);
        Check.due("11 BAD ahead of FULL", x.being(2), BAD);
        Check.due("11 refused", x.count(3), 6);
        Check.due("11 behind the last there is none", x.beingIs(6, 0), BAD);
    }
}
