/** Promise 4: exit. */
final class Promise04Test extends Check {
    private static final int[] LEAST_AND_GREATEST = {-1, 0, 19, 100, 114, 200, 249, 300, 304};
    private static final int[] BESIDE = {-2, -3, 20, 21, 52, 98, 99, 115, 116, 132, 198, 199, 250, 251, 298, 299,
        305, 306, 399, 400, 1000, LEAST, LEAST + 1, GREATEST - 1, GREATEST};

    public static void main(String[] args) {
        whatItWas();
        leastAndGreatest();
        outsideWhatIsTold();
        aRoomThatIsNotThere();
        aDoorThatIsNotThere();
        aDoorOfWhichTheRoomIsNoSide();
        noRoom();
        noDirection();
        onlyThatWay();
        end();
    }

    /** ROOM 0 is a SIDE of all fifteen DOORS, ROOM 19 the other one of DOOR 0. */
    private static World ofAllKinds() {
        return Worlds.rooms(20).then(x -> {
            for (int i = 0; i < 15; i++) {
                x.door(0, 19 - i);
            }
        });
    }

    private static void whatItWas() {
        DoorsLocks x = ofAllKinds().made();
        int was = -1;
        for (int way : LEAST_AND_GREATEST) {
            for (int next : LEAST_AND_GREATEST) {
                due("4 what it was", x.exit(0, 3, way), was);
                due("4 what it was, behind " + way, x.exit(0, 3, next), way);
                was = next;
            }
        }
    }

    private static void leastAndGreatest() {
        for (int way : LEAST_AND_GREATEST) {
            DoorsLocks x = ofAllKinds().made();
            x.exit(0, 0, 5);
            due("4 told anew: " + way, x.exit(0, 0, way), 5);
            due("4 is what is told", x.way(0, 0), way);
        }
        DoorsLocks x = ofAllKinds().made();
        due("4 of the last ROOM in the last DIRECTION", x.exit(19, 7, 100), -1);
        due("4 by its DOOR's other SIDE", x.way(19, 7), 100);
        due("4 to itself", x.exit(19, 7, 19), 100);
        due("4 to itself", x.way(19, 7), 19);
    }

    private static void outsideWhatIsTold() {
        for (int way : BESIDE) {
            refused("4 no WAY: " + way, ofAllKinds(), x -> x.exit(0, 0, way), BAD);
            refused("4 no WAY: " + way, ofAllKinds().then(x -> x.exit(0, 0, 200)), x -> x.exit(0, 0, way), BAD);
        }
    }

    private static void aRoomThatIsNotThere() {
        World threeRooms = Worlds.rooms(3).then(x -> x.exit(0, 0, 2));
        for (int way = 3; way < 20; way++) {
            int to = way;
            refused("4 not made yet: " + to, threeRooms, x -> x.exit(0, 0, to), BAD);
        }
    }

    private static void aDoorThatIsNotThere() {
        World oneDoor = Worlds.rooms(2).then(x -> x.door(0, 1)).then(x -> x.exit(0, 0, 100));
        for (int way = 101; way < 115; way++) {
            int by = way;
            refused("4 not made yet: " + by, oneDoor, x -> x.exit(0, 0, by), BAD);
        }
    }

    private static void aDoorOfWhichTheRoomIsNoSide() {
        World doors = Worlds.rooms(4).then(x -> {
            x.door(0, 1);
            x.door(2, -1);
            x.exit(2, 0, 101);
        });
        refused("4 no SIDE of 0 and 1", doors, x -> x.exit(2, 0, 100), BAD);
        refused("4 no SIDE of 0 and 1, it had none", doors, x -> x.exit(3, 0, 100), BAD);
        refused("4 the only SIDE is another", doors, x -> x.exit(0, 0, 101), BAD);
        refused("4 the only SIDE is another", doors, x -> x.exit(3, 0, 101), BAD);
        for (int room : new int[] {0, 1}) {
            due("4 a SIDE of it", doors.then(x -> x.exit(room, 0, 100)).made().way(room, 0), 100);
        }
    }

    private static void noRoom() {
        badOutside("4 no ROOM", Worlds::small, 0, Worlds.SMALL_ROOMS - 1, room -> x -> x.exit(room, 0, 0));
        badOutside("4 no ROOM", Worlds::full, 0, 19, room -> x -> x.exit(room, 0, 0));
        badOutside("4 no ROOM for no WAY", Worlds::full, 0, 19, room -> x -> x.exit(room, 7, -1));
    }

    private static void noDirection() {
        for (int room : new int[] {0, 1, 19}) {
            badOutside("4 no DIRECTION", Worlds::full, 0, 7, direction -> x -> x.exit(room, direction, 200));
        }
    }

    private static void onlyThatWay() {
        DoorsLocks x = Worlds.ofRooms(3);
        for (int direction = 0; direction < 8; direction++) {
            due("4 it was none", x.exit(1, direction, 200 + direction), -1);
        }
        for (int direction = 0; direction < 8; direction++) {
            due("4 each is its own", x.way(1, direction), 200 + direction);
            due("4 not the ROOM's ahead", x.way(0, direction), -1);
            due("4 not the ROOM's behind", x.way(2, direction), -1);
        }
        DoorsLocks y = Worlds.ofRooms(2);
        y.exit(0, 0, 1);
        due("4 none comes back by itself", y.count(4), 1);
    }
}
