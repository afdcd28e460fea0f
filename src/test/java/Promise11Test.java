/** Promise 11: being. */
final class Promise11Test extends Check {
    public static void main(String[] args) {
        numbersFromNoughtOn();
        leastAndGreatestRoom();
        asNew();
        nobodyIsTold();
        noRoom();
        full();
        badAheadOfFull();
        end();
    }

    private static World ofBeings(int beings) {
        return Worlds.rooms(2).then(x -> {
            for (int i = 0; i < beings; i++) {
                x.being(0);
            }
        });
    }

    private static void numbersFromNoughtOn() {
        DoorsLocks x = Worlds.ofRooms(2);
        for (int i = 0; i < 6; i++) {
            due("11 not there yet", x.beingIs(i, ROOM), BAD);
            due("11 its number", x.being(i % 2), i);
            due("11 one more", x.count(3), i + 1);
        }
        for (int i = 0; i < 6; i++) {
            due("11 its ROOM", x.beingIs(i, ROOM), i % 2);
        }
        due("11 behind the last there is none", x.beingIs(6, ROOM), BAD);
    }

    private static void leastAndGreatestRoom() {
        DoorsLocks x = Worlds.ofRooms(20);
        due("11 in the greatest", x.beingIs(x.being(19), ROOM), 19);
        due("11 in the least", x.beingIs(x.being(0), ROOM), 0);
    }

    private static void asNew() {
        DoorsLocks x = Worlds.ofRooms(2);
        for (int i = 0; i < 6; i++) {
            x.being(1);
            due("11 within nothing", x.beingIs(i, WITHIN), NO_SUCH);
            due("11 CAME from none", x.beingIs(i, CAME), NO_SUCH);
            due("11 holds nothing", x.beingIs(i, HELD), 0);
            due("11 keeps no NEWS", x.beingIs(i, NEWS), 0);
        }
    }

    private static void nobodyIsTold() {
        DoorsLocks x = ofBeings(5).made();
        x.being(0);
        for (int i = 0; i < 6; i++) {
            due("11 nobody is told of it", x.beingIs(i, NEWS), 0);
        }
    }

    private static void noRoom() {
        badOutside("11 no ROOM", Worlds::small, 0, Worlds.SMALL_ROOMS - 1, room -> x -> x.being(room));
        badOutside("11 no ROOM", Worlds.rooms(20), 0, 19, room -> x -> x.being(room));
    }

    private static void full() {
        due("11 the sixth finds room", ofBeings(5).made().being(0), 5);
        refused("11 no more", ofBeings(6), x -> x.being(0), FULL);
        refused("11 no more, in a ROOM without any", ofBeings(6), x -> x.being(1), FULL);
        refused("11 no more of anything", Worlds::full, x -> x.being(19), FULL);
    }

    private static void badAheadOfFull() {
        badOutside("11 BAD ahead of FULL", ofBeings(6), 0, 1, room -> x -> x.being(room));
    }
}
