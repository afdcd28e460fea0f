/** Promise 27: count. */
final class Promise27Test extends Check {
    private static final int ROOMS = 0, DOORS = 1, THINGS = 2, BEINGS = 3, WAYS = 4, LEADING = 5;

    public static void main(String[] args) {
        noneAtFirst();
        asManyAsWereMade();
        refusedOnesDoNotCount();
        waysThatAreNotNone();
        waysThatLeadSomewhere();
        allWays();
        asThingsAreNow();
        noWhat();
        isOnlyAsked();
        end();
    }

    private static void noneAtFirst() {
        for (int what = ROOMS; what <= LEADING; what++) {
            due("27 none, " + what, new DoorsLocks().count(what), 0);
        }
    }

    private static void asManyAsWereMade() {
        World full = Worlds::full;
        int[] due = {20, 15, 30, 6};
        for (int what = ROOMS; what <= BEINGS; what++) {
            due("27 no more of these, " + what, full.made().count(what), due[what]);
        }
        World small = Worlds::small;
        int[] few = {Worlds.SMALL_ROOMS, Worlds.SMALL_DOORS, Worlds.SMALL_THINGS, Worlds.SMALL_BEINGS};
        for (int what = ROOMS; what <= BEINGS; what++) {
            due("27 some of these, " + what, small.made().count(what), few[what]);
        }
    }

    private static void refusedOnesDoNotCount() {
        World full = Worlds::full;
        DoorsLocks x = full.made();
        due("27 FULL", x.room() + x.door(0, 1) + x.thing(0, SMALL, 1) + x.being(0), 4 * FULL);
        due("27 ROOMS", x.count(ROOMS), 20);
        due("27 DOORS", x.count(DOORS), 15);
        due("27 THINGS", x.count(THINGS), 30);
        due("27 beings", x.count(BEINGS), 6);
        DoorsLocks y = new DoorsLocks();
        due("27 BAD", y.door(0, 1) + y.thing(0, SMALL, 1) + y.being(0), 3 * BAD);
        for (int what = ROOMS; what <= LEADING; what++) {
            due("27 none", y.count(what), 0);
        }
    }

    private static void waysThatAreNotNone() {
        DoorsLocks x = Worlds.ofRooms(20);
        int[][] ways = {{0, 0}, {0, 7}, {19, 0}, {19, 7}};
        for (int i = 0; i < 4; i++) {
            x.exit(ways[i][0], ways[i][1], i == 0 ? 0 : 200);
            due("27 one more", x.count(WAYS), i + 1);
            x.exit(ways[i][0], ways[i][1], 300);
            due("27 told anew", x.count(WAYS), i + 1);
        }
        for (int i = 0; i < 4; i++) {
            x.exit(ways[i][0], ways[i][1], -1);
            due("27 one less", x.count(WAYS), 3 - i);
        }
        x.exit(0, 0, -1);
        due("27 none was there", x.count(WAYS), 0);
    }

    private static void waysThatLeadSomewhere() {
        for (WayKind kind : WayKind.values()) {
            for (int room : new int[] {0, 19}) {
                for (int direction : new int[] {0, 7}) {
                    DoorsLocks x = Worlds.ofRooms(20);
                    x.being(room);
                    kind.set(x, 0, room, direction, 7);
                    due("27 " + kind, x.count(WAYS), kind == WayKind.NONE ? 0 : 1);
                    due("27 LEADS, " + kind, x.count(LEADING), kind.leads() ? 1 : 0);
                }
            }
        }
    }

    private static void allWays() {
        DoorsLocks x = Worlds.ofRooms(20);
        for (int room = 0; room < 20; room++) {
            for (int direction = 0; direction < 8; direction++) {
                x.exit(room, direction, direction == 0 ? 249 : room);
            }
        }
        due("27 all", x.count(WAYS), 160);
        due("27 all but twenty LEAD somewhere", x.count(LEADING), 140);
    }

    private static void asThingsAreNow() {
        DoorsLocks x = Worlds.ofRooms(2);
        x.being(0);
        x.door(0, 1);
        x.exit(0, 0, 100);
        x.exit(1, 1, 100);
        x.exit(1, 2, 300);
        due("27 not OPEN, no ROOMS", x.count(LEADING), 0);
        x.act(0, OPEN_DOOR, 0);
        due("27 OPEN, from both SIDES", x.count(LEADING), 2);
        x.turn(0, 0);
        due("27 a ROOM of the RULE", x.count(LEADING), 3);
        x.act(0, CLOSE_DOOR, 0);
        due("27 not OPEN any more", x.count(LEADING), 1);
        due("27 as many WAYS", x.count(WAYS), 3);
    }

    private static void noWhat() {
        badOutside("27 no what", Worlds::empty, ROOMS, LEADING, what -> x -> x.count(what));
        badOutside("27 no what", Worlds::full, ROOMS, LEADING, what -> x -> x.count(what));
    }

    private static void isOnlyAsked() {
        for (int what = ROOMS; what <= LEADING; what++) {
            int asked = what;
            changesNothing("27 a question", Worlds::full, x -> x.count(asked));
        }
    }
}
