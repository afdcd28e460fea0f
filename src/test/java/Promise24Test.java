/** Promise 24: beingIs. */
final class Promise24Test extends Check {
    public static void main(String[] args) {
        atFirst();
        itsRoom();
        withinWhichThing();
        fromWhereItCame();
        refusedItDidNotCome();
        howManyItHolds();
        howManyNewsItKeeps();
        noBeing();
        noWhat();
        isOnlyAsked();
        end();
    }

    private static void atFirst() {
        DoorsLocks x = Worlds.ofRooms(20);
        int[] due = {19, NO_SUCH, NO_SUCH, 0, 0};
        for (int who = 0; who < 6; who++) {
            x.being(19);
            for (int what = ROOM; what <= NEWS; what++) {
                due("24 at first, " + what, x.beingIs(who, what), due[what]);
            }
        }
    }

    private static void itsRoom() {
        DoorsLocks x = Worlds.ofRooms(20);
        x.being(0);
        for (int room = 0; room < 20; room++) {
            x.exit(room, 0, (room + 1) % 20);
        }
        for (int i = 1; i <= 20; i++) {
            x.go(0, 0);
            due("24 its ROOM", x.beingIs(0, ROOM), i % 20);
            due("24 it CAME from", x.beingIs(0, CAME), i - 1);
        }
    }

    private static void withinWhichThing() {
        DoorsLocks x = Worlds.ofRooms(1);
        for (int i = 0; i < 30; i++) {
            x.thing(0, i % 2 == 0 ? CAR : BOX, 1);
        }
        x.being(0);
        x.being(0);
        for (int thing : new int[] {0, 1, 28, 29}) {
            x.handle(1, CLIMB, thing);
            due("24 within that", x.beingIs(1, WITHIN), thing);
            due("24 the other one within nothing", x.beingIs(0, WITHIN), NO_SUCH);
            x.leave(1);
            due("24 within nothing", x.beingIs(1, WITHIN), NO_SUCH);
        }
    }

    private static void fromWhereItCame() {
        DoorsLocks x = Worlds.ofRooms(3);
        x.being(2);
        x.being(2);
        x.exit(2, 0, 0);
        x.exit(0, 0, 0);
        due("24 from none", x.beingIs(0, CAME), NO_SUCH);
        x.go(0, 0);
        due("24 from there", x.beingIs(0, CAME), 2);
        due("24 the other from none", x.beingIs(1, CAME), NO_SUCH);
        x.go(0, 0);
        due("24 from where it is", x.beingIs(0, CAME), 0);
    }

    private static void refusedItDidNotCome() {
        DoorsLocks x = Worlds.ofRooms(2);
        x.being(0);
        due("24 refused", x.go(0, 0), -25);
        due("24 so it CAME from none", x.beingIs(0, CAME), NO_SUCH);
        x.exit(0, 0, 1);
        x.go(0, 0);
        due("24 refused", x.go(0, 0), -25);
        due("24 so it CAME from where it did", x.beingIs(0, CAME), 0);
        due("24 nothing is done", x.follow(0, 0), 1);
        due("24 so it CAME from where it did", x.beingIs(0, CAME), 0);
    }

    private static void howManyItHolds() {
        DoorsLocks x = Worlds.ofRooms(1);
        x.being(0);
        x.being(0);
        for (int i = 0; i < 5; i++) {
            x.thing(0, SMALL, 1);
            x.handle(0, TAKE, i);
            due("24 four at most", x.beingIs(0, HELD), Math.min(4, i + 1));
        }
        for (int i = 3; i >= 0; i--) {
            x.handle(0, DROP, i);
            due("24 one less", x.beingIs(0, HELD), i);
        }
        due("24 another one none", x.beingIs(1, HELD), 0);
    }

    private static void howManyNewsItKeeps() {
        DoorsLocks x = Worlds.ofRooms(2);
        x.being(0);
        x.being(0);
        x.exit(0, 0, 1);
        x.exit(1, 1, 0);
        for (int i = 1; i <= 12; i++) {
            x.go(0, (i + 1) % 2);
            due("24 eight at most", x.beingIs(1, NEWS), Math.min(8, i));
            due("24 none of itself", x.beingIs(0, NEWS), 0);
        }
    }

    private static void noBeing() {
        for (int what = ROOM; what <= NEWS; what++) {
            int asked = what;
            badOutside("24 no being", Worlds::small, 0, Worlds.SMALL_BEINGS - 1, who -> x -> x.beingIs(who, asked));
            badOutside("24 no being", Worlds::full, 0, 5, who -> x -> x.beingIs(who, asked));
        }
    }

    private static void noWhat() {
        for (int who = 0; who < Worlds.SMALL_BEINGS; who++) {
            int of = who;
            badOutside("24 no what", Worlds::small, ROOM, NEWS, what -> x -> x.beingIs(of, what));
        }
    }

    private static void isOnlyAsked() {
        for (int what = ROOM; what <= NEWS; what++) {
            int asked = what;
            changesNothing("24 a question", Worlds::small, x -> x.beingIs(0, asked));
        }
    }
}
