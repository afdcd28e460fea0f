/** Promise 22: state. */
final class Promise22Test extends Check {
    public static void main(String[] args) {
        eachState();
        eachDoorItsOwn();
        noDoor();
        isOnlyAsked();
        end();
    }

    private static void eachState() {
        for (int state = 0; state < 16; state++) {
            boolean lockedWithoutKey = (state & 6) == 2;
            if (!lockedWithoutKey) {
                DoorsLocks x = Worlds.ofRooms(2);
                x.door(0, (state & 8) != 0 ? 1 : -1);
                x.thing(0, SMALL, 1);
                x.being(0);
                if ((state & 1) != 0) {
                    x.act(0, OPEN_DOOR, 0);
                }
                x.lock(0, (state & 4) != 0 ? 0 : -1, (state & 2) != 0);
                due("22 each of it by itself", x.state(0), state);
            }
        }
    }

    private static void eachDoorItsOwn() {
        DoorsLocks x = Worlds.ofRooms(2);
        x.thing(0, SMALL, 1);
        x.being(0);
        for (int i = 0; i < 15; i++) {
            x.door(0, i % 2 == 0 ? 1 : -1);
        }
        x.act(0, OPEN_DOOR, 14);
        x.lock(0, 0, true);
        for (int door = 0; door < 15; door++) {
            int due = door == 0 ? 14 : door == 14 ? 9 : door % 2 == 0 ? 8 : 0;
            due("22 of DOOR " + door, x.state(door), due);
        }
    }

    private static void noDoor() {
        badOutside("22 no DOOR", Worlds::small, 0, Worlds.SMALL_DOORS - 1, door -> x -> x.state(door));
        badOutside("22 no DOOR", Worlds::full, 0, 14, door -> x -> x.state(door));
        badOutside("22 no DOOR yet", Worlds.rooms(20), 0, -1, door -> x -> x.state(door));
    }

    private static void isOnlyAsked() {
        changesNothing("22 a question", Worlds::full, x -> x.state(0));
    }
}
