/** Promise 5: width. */
final class Promise05Test extends Check {
    public static void main(String[] args) {
        nineAtFirst();
        leastAndGreatest();
        noWidth();
        noRoom();
        noDirection();
        onlyThatWay();
        staysWhenTheWayIsToldAnew();
        end();
    }

    private static void nineAtFirst() {
        DoorsLocks x = Worlds.ofRooms(20);
        for (int room = 0; room < 20; room++) {
            for (int direction = 0; direction < 8; direction++) {
                due("5 at first", x.width(room, direction, 1), 9);
            }
        }
    }

    private static void leastAndGreatest() {
        DoorsLocks x = Worlds.ofRooms(20);
        int was = 9;
        for (int width : new int[] {1, 9, 1, 2, 8, 8, 9}) {
            due("5 what it was", x.width(19, 7, width), was);
            was = width;
        }
    }

    private static void noWidth() {
        badOutside("5 no WIDTH", Worlds::small, 1, 9, width -> x -> x.width(0, 0, width));
        badOutside("5 no WIDTH", Worlds::full, 1, 9, width -> x -> x.width(19, 7, width));
    }

    private static void noRoom() {
        badOutside("5 no ROOM", Worlds::small, 0, Worlds.SMALL_ROOMS - 1, room -> x -> x.width(room, 0, 5));
        badOutside("5 no ROOM", Worlds::full, 0, 19, room -> x -> x.width(room, 7, 5));
    }

    private static void noDirection() {
        for (int room : new int[] {0, 1, 19}) {
            badOutside("5 no DIRECTION", Worlds::full, 0, 7, direction -> x -> x.width(room, direction, 5));
        }
    }

    private static void onlyThatWay() {
        DoorsLocks x = Worlds.ofRooms(3);
        for (int direction = 0; direction < 8; direction++) {
            x.width(1, direction, direction + 1);
        }
        for (int direction = 0; direction < 8; direction++) {
            due("5 each is its own", x.width(1, direction, 9), direction + 1);
            due("5 not the ROOM's ahead", x.width(0, direction, 9), 9);
            due("5 not the ROOM's behind", x.width(2, direction, 9), 9);
        }
    }

    private static void staysWhenTheWayIsToldAnew() {
        DoorsLocks x = Worlds.ofRooms(2);
        x.door(0, 1);
        x.width(0, 0, 4);
        for (int way : new int[] {1, 100, 200, 300, -1, 0, -1}) {
            x.exit(0, 0, way);
            due("5 it stays, the WAY is " + way, x.width(0, 0, 4), 4);
        }
    }
}
