/** Promise 21: leads. */
final class Promise21Test extends Check {
    public static void main(String[] args) {
        eachKindOfWay();
        theFirstAndTheLastRoom();
        theOtherSide();
        whoseTurnItIs();
        whateverTheWidth();
        noRoom();
        noDirection();
        isOnlyAsked();
        end();
    }

    private static void eachKindOfWay() {
        for (WayKind kind : WayKind.values()) {
            for (int direction : new int[] {0, 7}) {
                DoorsLocks x = Worlds.ofRooms(2);
                x.being(0);
                kind.set(x, 0, 0, direction, 1);
                due("21 " + kind, x.leads(0, direction), kind.leads() ? 1 : BAD);
            }
        }
    }

    private static void theFirstAndTheLastRoom() {
        DoorsLocks x = Worlds.ofRooms(20);
        due("21 there is none", x.leads(19, 7), BAD);
        x.exit(19, 7, 0);
        x.exit(0, 0, 19);
        x.exit(19, 0, 19);
        due("21 to the first", x.leads(19, 7), 0);
        due("21 to the last", x.leads(0, 0), 19);
        due("21 to itself", x.leads(19, 0), 19);
        x.exit(19, 7, -1);
        due("21 none any more", x.leads(19, 7), BAD);
    }

    private static void theOtherSide() {
        DoorsLocks x = Worlds.ofRooms(20);
        for (int i = 0; i < 15; i++) {
            x.door(i % 2 == 0 ? 0 : 19, i % 2 == 0 ? 19 : 0);
        }
        x.being(0);
        for (int door : new int[] {0, 1, 14}) {
            x.exit(0, 0, 100 + door);
            x.exit(19, 0, 100 + door);
            due("21 not OPEN", x.leads(0, 0), BAD);
            due("21 not OPEN", x.leads(19, 0), BAD);
            x.act(0, OPEN_DOOR, door);
            due("21 the other SIDE", x.leads(0, 0), 19);
            due("21 the other SIDE", x.leads(19, 0), 0);
            x.act(0, CLOSE_DOOR, door);
            due("21 not OPEN any more", x.leads(0, 0), BAD);
        }
    }

    private static void whoseTurnItIs() {
        DoorsLocks x = Worlds.ofRooms(4);
        x.being(0);
        for (int room = 0; room < 4; room++) {
            x.exit(room, 2, 304);
        }
        due("21 the RULE has no ROOMS", x.leads(0, 2), BAD);
        for (int room = 0; room < 4; room++) {
            x.turn(4, room);
            due("21 the first one's turn", x.leads(3, 2), 0);
        }
        for (int i = 0; i < 9; i++) {
            for (int room = 0; room < 4; room++) {
                due("21 in turn, from every ROOM", x.leads(room, 2), i % 4);
            }
            x.go(0, 2);
        }
    }

    private static void whateverTheWidth() {
        DoorsLocks x = Worlds.ofRooms(2);
        x.exit(0, 0, 1);
        x.width(0, 0, 1);
        due("21 the WIDTH does not count", x.leads(0, 0), 1);
    }

    private static void noRoom() {
        badOutside("21 no ROOM", Worlds::small, 0, Worlds.SMALL_ROOMS - 1, room -> x -> x.leads(room, 0));
        badOutside("21 no ROOM", Worlds::full, 0, 19, room -> x -> x.leads(room, 7));
    }

    private static void noDirection() {
        for (int room = 0; room < 20; room++) {
            int of = room;
            badOutside("21 no DIRECTION", Worlds::full, 0, 7, direction -> x -> x.leads(of, direction));
        }
    }

    private static void isOnlyAsked() {
        changesNothing("21 a question of a RULE", Worlds::full, x -> x.leads(0, 3));
    }
}
