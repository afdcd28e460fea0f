/** Promise 3: door. */
final class Promise03Test extends Check {
    public static void main(String[] args) {
        numbersFromNoughtOn();
        leastAndGreatestSides();
        neitherOpenNorLockedNorWithKey();
        onlyOneSide();
        noFirstSide();
        noSecondSide();
        theSameSides();
        full();
        badAheadOfFull();
        end();
    }

    private static World ofDoors(int doors) {
        return Worlds.rooms(2).then(x -> {
            for (int i = 0; i < doors; i++) {
                x.door(0, 1);
            }
        });
    }

    private static void numbersFromNoughtOn() {
        DoorsLocks x = Worlds.ofRooms(2);
        for (int i = 0; i < 15; i++) {
            due("3 not there yet", x.state(i), BAD);
            due("3 its number", x.door(i % 2, 1 - i % 2), i);
            due("3 one more", x.count(1), i + 1);
        }
        due("3 behind the last there is none", x.state(15), BAD);
    }

    private static void leastAndGreatestSides() {
        DoorsLocks x = Worlds.ofRooms(20);
        due("3 least and greatest", x.door(0, 19), 0);
        due("3 greatest and least", x.door(19, 0), 1);
        due("3 the greatest alone", x.door(19, -1), 2);
        due("3 the least alone", x.door(0, -1), 3);
        x.being(0);
        x.being(19);
        x.being(1);
        int[][] ofRoom = {{1, 1, 0, 1}, {1, 1, 1, 0}, {0, 0, 0, 0}};
        for (int who = 0; who < 3; who++) {
            for (int door = 0; door < 4; door++) {
                due("3 a SIDE of it", x.here(who, HERE_DOOR, door), ofRoom[who][door] == 1);
            }
        }
    }

    private static void neitherOpenNorLockedNorWithKey() {
        DoorsLocks x = Worlds.ofRooms(2);
        due("3 two SIDES and no more", x.state(x.door(0, 1)), 8);
        due("3 one SIDE and no more", x.state(x.door(1, -1)), 0);
    }

    private static void onlyOneSide() {
        DoorsLocks x = Worlds.ofRooms(2);
        int door = x.door(0, -1);
        due("3 its SIDE", x.exit(0, 0, 100 + door), -1);
        due("3 its SIDE", x.way(0, 0), 100 + door);
        refused("3 no other SIDE", Worlds.rooms(2).then(y -> y.door(0, -1)), y -> y.exit(1, 0, 100), BAD);
    }

    private static void noFirstSide() {
        badOutside("3 no ROOM a", Worlds::small, 0, Worlds.SMALL_ROOMS - 1, a -> x -> x.door(a, 0));
        badOutside("3 no ROOM a", Worlds.rooms(20), 0, 19, a -> x -> x.door(a, 0));
        badOutside("3 no ROOM a, alone", Worlds.rooms(20), 0, 19, a -> x -> x.door(a, -1));
    }

    private static void noSecondSide() {
        badOutside("3 no ROOM b", Worlds::small, -1, Worlds.SMALL_ROOMS - 1, b -> x -> x.door(0, b));
        badOutside("3 no ROOM b", Worlds.rooms(20), -1, 19, b -> x -> x.door(0, b));
    }

    private static void theSameSides() {
        for (int room : new int[] {0, 7, 19}) {
            refused("3 the same", Worlds.rooms(20), x -> x.door(room, room), BAD);
        }
        refused("3 none at all", Worlds.rooms(20), x -> x.door(-1, -1), BAD);
        DoorsLocks x = Worlds.ofRooms(2);
        x.door(0, 1);
        due("3 the same as another DOOR's", x.door(0, 1), 1);
    }

    private static void full() {
        due("3 the fifteenth finds room", ofDoors(14).made().door(0, 1), 14);
        refused("3 no more", ofDoors(15), x -> x.door(0, 1), FULL);
        refused("3 no more, with one SIDE", ofDoors(15), x -> x.door(0, -1), FULL);
        refused("3 no more of anything", Worlds::full, x -> x.door(0, 1), FULL);
    }

    private static void badAheadOfFull() {
        refused("3 BAD ahead of FULL: the same", ofDoors(15), x -> x.door(1, 1), BAD);
        badOutside("3 BAD ahead of FULL: no ROOM a", ofDoors(15), 0, 1, a -> x -> x.door(a, 1));
        badOutside("3 BAD ahead of FULL: no ROOM b", ofDoors(15), -1, 1, b -> x -> x.door(0, b));
    }
}
