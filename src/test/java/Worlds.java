/** Worlds that several tests start from. */
final class Worlds {
    /** What the small world has. */
    static final int SMALL_ROOMS = 4, SMALL_DOORS = 3, SMALL_THINGS = 8, SMALL_BEINGS = 4;

    private Worlds() {
    }

    static void empty(DoorsLocks x) {
        Check.due("nothing is there", x.count(0), 0);
    }

    static World rooms(int rooms) {
        return x -> {
            for (int i = 0; i < rooms; i++) {
                Check.due("room", x.room(), i);
            }
        };
    }

    static DoorsLocks ofRooms(int rooms) {
        return rooms(rooms).made();
    }

    /** Some of everything, and room for more of everything. */
    static void small(DoorsLocks x) {
        rooms(SMALL_ROOMS).make(x);
        smallDoorsAndThings(x);
        smallWays(x);
        for (int room : new int[] {0, 0, 2, 0}) {
            x.being(room);
        }
        Check.due("holds the KEY", x.handle(0, Check.TAKE, 0), 1);
        Check.due("opens", x.act(0, Check.OPEN_DOOR, 0), 1);
        Check.due("within the CAR", x.handle(1, Check.CLIMB, 5), 1);
        Check.due("within the BOX", x.handle(2, Check.CLIMB, 7), 1);
        Check.due("SHUT in", x.handle(2, Check.SHUT, 7), 1);
        Check.due("by the RULE", x.go(0, 6), 1);
        Check.due("by the DOOR", x.back(0), 0);
        Check.due("to another ROOM", x.go(3, 2), 3);
    }

    /** DOORS: 0 is OPEN, 1 is LOCKED, 2 has one SIDE. THINGS: 0 .. 2 SMALL, 3, 4 HEAVY, 5 a CAR, 6, 7 BOXES. */
    private static void smallDoorsAndThings(DoorsLocks x) {
        x.door(0, 1);
        x.door(1, 2);
        x.door(3, -1);
        int[] rooms = {0, 1, 0, 0, 3, 0, 1, 2};
        int[] sorts = {Check.SMALL, Check.SMALL, Check.SMALL, Check.HEAVY, Check.HEAVY, Check.CAR, Check.BOX,
            Check.BOX};
        int[] sizes = {1, 2, 9, 5, 3, 4, 6, 2};
        for (int i = 0; i < SMALL_THINGS; i++) {
            Check.due("thing", x.thing(rooms[i], sorts[i], sizes[i]), i);
        }
        x.lock(0, 0, false);
        x.lock(1, 1, true);
        x.region(2, 0, true);
        x.region(2, 3, true);
        x.region(0, 1, true);
        x.floats(4, 2);
    }

    private static void smallWays(DoorsLocks x) {
        int[][] ways = {{0, 0, 100}, {1, 1, 100}, {1, 2, 101}, {2, 3, 101}, {3, 7, 102}, {0, 2, 3}, {3, 3, 0},
            {0, 4, 207}, {0, 6, 300}, {2, 6, 300}, {1, 4, 301}, {2, 0, 304}, {0, 5, 0}};
        for (int[] way : ways) {
            x.exit(way[0], way[1], way[2]);
        }
        x.width(0, 0, 4);
        x.width(0, 2, 7);
        x.width(3, 3, 1);
        for (int room = 1; room <= 3; room++) {
            x.turn(0, room);
        }
        x.turn(4, 0);
    }

    /** No more of anything: 20 ROOMS, 15 DOORS, 30 THINGS, 6 beings, RULES of four ROOMS; each hand is full. */
    static void full(DoorsLocks x) {
        rooms(20).make(x);
        for (int i = 0; i < 15; i++) {
            x.door(i, i == 14 ? -1 : i + 1);
        }
        fullThings(x);
        fullWays(x);
        for (int i = 0; i < 6; i++) {
            x.being(i == 5 ? 19 : 0);
        }
        for (int i = 0; i < 4; i++) {
            Check.due("takes", x.handle(0, Check.TAKE, i), 1);
        }
        Check.due("within the CAR", x.handle(1, Check.CLIMB, 10), 1);
        Check.due("SHUT in", x.handle(2, Check.CLIMB, 11) + x.handle(2, Check.SHUT, 11), 2);
        Check.due("opens", x.act(3, Check.OPEN_DOOR, 0), 1);
        for (int i = 0; i < 5; i++) {
            x.go(3, 7);
            x.back(3);
        }
    }

    private static void fullThings(DoorsLocks x) {
        for (int i = 0; i < 30; i++) {
            int sort = i < 8 ? Check.SMALL : i < 10 ? Check.HEAVY : i == 10 ? Check.CAR : i == 11 ? Check.BOX : i % 4;
            Check.due("thing", x.thing(i < 12 ? 0 : i - 12, sort, i % 9 + 1), i);
        }
        for (int i = 0; i < 4; i++) {
            x.lock(i, 2 * i, i > 1);
        }
        for (int region = 0; region < 7; region++) {
            x.region(region, 19 - region, true);
        }
        x.floats(9, 6);
    }

    private static void fullWays(DoorsLocks x) {
        for (int i = 0; i < 15; i++) {
            x.exit(i, 0, 100 + i);
        }
        for (int room = 0; room < 20; room++) {
            x.exit(room, 7, (room + 1) % 20);
        }
        x.exit(1, 5, 0);
        for (int rule = 0; rule < 5; rule++) {
            x.exit(rule, 3, 300 + rule);
            for (int i = 0; i < 4; i++) {
                x.turn(rule, 4 * rule + i);
            }
        }
    }
}
