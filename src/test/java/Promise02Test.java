/** Promise 2: room. */
final class Promise02Test extends Check {
    public static void main(String[] args) {
        numbersFromNoughtOn();
        theTwentiethIsTheLast();
        full();
        withoutWays();
        nothingIsKeptFromBefore();
        end();
    }

    private static void numbersFromNoughtOn() {
        DoorsLocks x = new DoorsLocks();
        for (int i = 0; i < 20; i++) {
            due("2 not there yet", x.being(i), BAD);
            due("2 its number", x.room(), i);
            due("2 one more", x.count(0), i + 1);
        }
    }

    private static void theTwentiethIsTheLast() {
        DoorsLocks x = Worlds.ofRooms(20);
        due("2 the last is there", x.way(19, 7), -1);
        due("2 somebody is in it", x.beingIs(x.being(19), ROOM), 19);
        due("2 behind the last there is none", x.being(20), BAD);
    }

    private static void full() {
        refused("2 no more", Worlds.rooms(20), DoorsLocks::room, FULL);
        refused("2 no more of anything", Worlds::full, DoorsLocks::room, FULL);
        DoorsLocks x = Worlds.ofRooms(20);
        for (int i = 0; i < 3; i++) {
            due("2 FULL again", x.room(), FULL);
        }
        due("2 still twenty", x.count(0), 20);
    }

    private static void withoutWays() {
        DoorsLocks x = Worlds.ofRooms(20);
        for (int room = 0; room < 20; room++) {
            for (int direction = 0; direction < 8; direction++) {
                due("2 without WAYS", x.way(room, direction), -1);
            }
        }
        due("2 without WAYS", x.count(4), 0);
    }

    private static void nothingIsKeptFromBefore() {
        World refusals = x -> {
            x.room();
            x.exit(1, 0, 0);
            x.exit(0, 0, 1);
            x.width(1, 0, 3);
            x.turn(0, 1);
            x.region(0, 1, true);
        };
        same("2 a ROOM is as new, whatever was told of its number", Worlds.rooms(2), refusals.then(DoorsLocks::room));
    }
}
