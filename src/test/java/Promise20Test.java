/** Promise 20: way. */
final class Promise20Test extends Check {
    public static void main(String[] args) {
        noneAtFirst();
        asTold();
        notWhereItLeads();
        asItWasWhenRefused();
        noRoom();
        noDirection();
        isOnlyAsked();
        end();
    }

    private static void noneAtFirst() {
        DoorsLocks x = Worlds.ofRooms(20);
        for (int direction = 0; direction < 8; direction++) {
            due("20 none", x.way(0, direction), -1);
            due("20 none", x.way(19, direction), -1);
        }
    }

    private static void asTold() {
        DoorsLocks x = Worlds.ofRooms(20);
        for (int i = 0; i < 15; i++) {
            x.door(0, 19);
        }
        for (int way : new int[] {0, 19, 100, 114, 200, 249, 300, 304, -1}) {
            x.exit(0, 0, way);
            x.exit(19, 7, way);
            due("20 of the first", x.way(0, 0), way);
            due("20 of the last", x.way(19, 7), way);
        }
    }

    private static void notWhereItLeads() {
        for (WayKind kind : WayKind.values()) {
            DoorsLocks x = Worlds.ofRooms(2);
            x.being(0);
            kind.set(x, 0, 0, 5, 1);
            int way = switch (kind) {
                case NONE -> -1;
                case TO_ROOM -> 1;
                case BLOCKED_BY_0 -> 200;
                case BLOCKED_BY_1 -> 201;
                case BLOCKED_BY_49 -> 249;
                case RULE_WITHOUT_ROOMS -> 300;
                case RULE -> 301;
                default -> 100;
            };
            due("20 " + kind, x.way(0, 5), way);
            x.go(0, 5);
            due("20 and once somebody has gone by it, " + kind, x.way(0, 5), way);
        }
    }

    private static void asItWasWhenRefused() {
        DoorsLocks x = Worlds.ofRooms(2);
        x.exit(0, 0, 1);
        due("20 refused", x.exit(0, 0, 2), BAD);
        due("20 as it was", x.way(0, 0), 1);
    }

    private static void noRoom() {
        badOutside("20 no ROOM", Worlds::small, 0, Worlds.SMALL_ROOMS - 1, room -> x -> x.way(room, 0));
        badOutside("20 no ROOM", Worlds::full, 0, 19, room -> x -> x.way(room, 7));
    }

    /** Each ROOM's WAY in DIRECTION 7 and in 0 is there, so one that is taken for its neighbour's shows. */
    private static void noDirection() {
        for (int room = 0; room < 15; room++) {
            int of = room;
            badOutside("20 no DIRECTION", Worlds::full, 0, 7, direction -> x -> x.way(of, direction));
        }
    }

    private static void isOnlyAsked() {
        changesNothing("20 a question", Worlds::full, x -> x.way(0, 3));
    }
}
