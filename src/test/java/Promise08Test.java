/** Promise 8: lock. */
final class Promise08Test extends Check {
    public static void main(String[] args) {
        keyAndLocked();
        lastDoorAndLastKey();
        noKey();
        lockedWithoutKey();
        notSmall();
        noDoor();
        noThing();
        openAsItIs();
        wherever();
        theKeyIsThatThing();
        end();
    }

    /** THINGS 0 .. 3 of the SORTS of these numbers, 4 another SMALL one, all with the being, and the DOOR. */
    private static World ofOneDoor() {
        return Worlds.rooms(2).then(x -> {
            x.door(0, 1);
            for (int sort = SMALL; sort <= BOX; sort++) {
                x.thing(0, sort, 1);
            }
            x.thing(0, SMALL, 1);
            x.being(0);
        });
    }

    private static void keyAndLocked() {
        DoorsLocks x = ofOneDoor().made();
        due("8 a KEY, not LOCKED", x.lock(0, 0, false), 1);
        due("8 a KEY, not LOCKED", x.state(0), 12);
        due("8 a KEY, LOCKED", x.lock(0, 0, true), 1);
        due("8 a KEY, LOCKED", x.state(0), 14);
        due("8 LOCKED already", x.lock(0, 0, true), 1);
        due("8 LOCKED already", x.state(0), 14);
        due("8 not LOCKED", x.lock(0, 0, false), 1);
        due("8 not LOCKED", x.state(0), 12);
    }

    private static void lastDoorAndLastKey() {
        World last = Worlds.rooms(2).then(x -> {
            for (int i = 0; i < 15; i++) {
                x.door(0, 1);
            }
            for (int i = 0; i < 30; i++) {
                x.thing(0, SMALL, 1);
            }
        });
        DoorsLocks x = last.made();
        due("8 the last of both", x.lock(14, 29, true), 1);
        due("8 the last DOOR", x.state(14), 14);
        due("8 the last but one as it was", x.state(13), 8);
        due("8 the first as it was", x.state(0), 8);
        due("8 the first of both", x.lock(0, 0, true), 1);
        due("8 one KEY of two DOORS", x.lock(1, 0, true), 1);
        due("8 one KEY of two DOORS", x.state(0) + x.state(1), 28);
    }

    private static void noKey() {
        for (boolean on : NO_AND_YES) {
            DoorsLocks x = ofOneDoor().made();
            x.lock(0, 0, on);
            due("8 without KEY from now on", x.lock(0, -1, false), 1);
            due("8 and not LOCKED", x.state(0), 8);
            due("8 without KEY already", x.lock(0, -1, false), 1);
        }
    }

    private static void lockedWithoutKey() {
        refused("8 LOCKED without a KEY", ofOneDoor(), x -> x.lock(0, -1, true), BAD);
        for (boolean on : NO_AND_YES) {
            World withKey = ofOneDoor().then(x -> x.lock(0, 0, on));
            refused("8 LOCKED without a KEY, it has one", withKey, x -> x.lock(0, -1, true), BAD);
        }
    }

    private static void notSmall() {
        for (int sort : new int[] {HEAVY, CAR, BOX}) {
            for (boolean on : NO_AND_YES) {
                refused("8 not SMALL: " + sort, ofOneDoor(), x -> x.lock(0, sort, on), BAD);
                World withKey = ofOneDoor().then(x -> x.lock(0, 0, !on));
                refused("8 not SMALL: " + sort, withKey, x -> x.lock(0, sort, on), BAD);
            }
        }
    }

    private static void noDoor() {
        for (boolean on : NO_AND_YES) {
            badOutside("8 no DOOR", Worlds::small, 0, Worlds.SMALL_DOORS - 1, door -> x -> x.lock(door, 0, on));
            badOutside("8 no DOOR", Worlds::full, 0, 14, door -> x -> x.lock(door, 0, on));
        }
        badOutside("8 no DOOR, no KEY", Worlds::full, 0, 14, door -> x -> x.lock(door, -1, false));
    }

    private static void noThing() {
        for (boolean on : NO_AND_YES) {
            badOutside("8 no THING", Worlds::small, -1, Worlds.SMALL_THINGS - 1, key -> x -> x.lock(0, key, on));
            badOutside("8 no THING", Worlds::full, -1, 29, key -> x -> x.lock(0, key, on));
        }
    }

    private static void openAsItIs() {
        DoorsLocks x = ofOneDoor().made();
        x.act(0, OPEN_DOOR, 0);
        due("8 of an OPEN one", x.lock(0, 0, true), 1);
        due("8 OPEN and LOCKED", x.state(0), 15);
        x.lock(0, -1, false);
        due("8 OPEN still", x.state(0), 9);
    }

    private static void wherever() {
        DoorsLocks x = Worlds.ofRooms(3);
        x.door(0, 1);
        x.thing(2, SMALL, 9);
        x.being(2);
        due("8 a KEY that is elsewhere", x.lock(0, 0, true), 1);
        x.handle(0, TAKE, 0);
        due("8 a KEY that is held", x.lock(0, 0, false), 1);
        due("8 a KEY that is held", x.state(0), 12);
    }

    private static void theKeyIsThatThing() {
        DoorsLocks x = ofOneDoor().made();
        x.lock(0, 0, true);
        x.handle(0, TAKE, 4);
        due("8 not the KEY", x.act(0, UNLOCK, 0), -14);
        x.lock(0, 4, true);
        due("8 the KEY from now on", x.act(0, UNLOCK, 0), 1);
        x.lock(0, 0, true);
        due("8 the KEY no more", x.act(0, UNLOCK, 0), -14);
    }
}
