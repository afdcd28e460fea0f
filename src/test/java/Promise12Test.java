/** Promise 12: act. */
final class Promise12Test extends Check {
    /** Where the being is: in the ROOM of the first SIDE, of the second, of none, or SHUT in at the first. */
    private static final int FIRST = 0, SECOND = 1, ELSEWHERE = 2, SHUT_IN = 3;

    /** All that the texts depend on. */
    private record Case(int kind, int place, boolean open, boolean locked, boolean key, boolean own, boolean other) {
        boolean canBe() {
            return key || !locked;
        }

        boolean here() {
            return place == FIRST || place == SECOND;
        }

        /** DOOR 0 with KEY 0, DOOR 1 with KEY 1, being 0 that acts, being 1 that made it so. */
        World world() {
            return Worlds.rooms(3).then(x -> {
                x.door(0, 1);
                x.door(0, 1);
                x.thing(0, SMALL, 1);
                x.thing(0, SMALL, 1);
                x.thing(0, BOX, 1);
                x.exit(0, 0, 1);
                x.exit(0, 1, 2);
                x.being(0);
                x.being(0);
                hold(x);
                setDoors(x);
                takePlace(x);
            });
        }

        private void hold(DoorsLocks x) {
            if (own) {
                due("12 holds its KEY", x.handle(0, TAKE, 0), 1);
            }
            if (other) {
                due("12 holds another KEY", x.handle(0, TAKE, 1), 1);
            }
        }

        private void setDoors(DoorsLocks x) {
            if (open) {
                due("12 is OPEN", x.act(1, OPEN_DOOR, 0), 1);
            }
            x.lock(0, key ? 0 : -1, locked);
            x.lock(1, 1, true);
        }

        private void takePlace(DoorsLocks x) {
            if (place == SECOND || place == ELSEWHERE) {
                due("12 goes there", x.go(0, place - 1), place);
            }
            if (place == SHUT_IN) {
                due("12 is SHUT in", x.handle(0, CLIMB, 2) + x.handle(0, SHUT, 2), 2);
            }
        }

        int wanted() {
            Told told = Told.first(10, !here());
            if (kind == OPEN_DOOR) {
                told.then(11, open).then(12, locked);
            } else if (kind == CLOSE_DOOR) {
                told.then(11, !open);
            } else {
                told.then(11, locked == (kind == LOCK)).then(13, !key).then(15, other && !own).then(14, !own);
            }
            return told.or(1);
        }

        /** What state() answers once the call has been heard. */
        int stateAfter() {
            boolean done = wanted() == 1;
            boolean isOpen = done && kind <= CLOSE_DOOR ? kind == OPEN_DOOR : open;
            boolean isLocked = done && kind >= LOCK ? kind == LOCK : locked;
            return (isOpen ? 1 : 0) + (isLocked ? 2 : 0) + (key ? 4 : 0) + 8;
        }
    }

    public static void main(String[] args) {
        inTheOrderTold();
        onlyThatDoor();
        aKeyOfAnotherDoor();
        fourThatAreNoKeys();
        aDoorWithOneSide();
        aKeyThatIsHereButNotHeld();
        noBeing();
        noKind();
        noDoor();
        badAheadOfTexts();
        end();
    }

    private static void inTheOrderTold() {
        for (int kind = OPEN_DOOR; kind <= UNLOCK; kind++) {
            for (int place = FIRST; place <= SHUT_IN; place++) {
                for (int bits = 0; bits < 32; bits++) {
                    Case one = new Case(kind, place, (bits & 1) != 0, (bits & 2) != 0, (bits & 4) != 0,
                            (bits & 8) != 0, (bits & 16) != 0);
                    if (one.canBe()) {
                        checkCase(one);
                    }
                }
            }
        }
    }

    private static void checkCase(Case one) {
        int kind = one.kind();
        if (one.wanted() != 1) {
            refused("12 " + one, one.world(), x -> x.act(0, kind, 0), one.wanted());
            return;
        }
        DoorsLocks x = one.world().made();
        due("12 " + one, x.act(0, kind, 0), 1);
        due("12 its state, " + one, x.state(0), one.stateAfter());
        due("12 another DOOR's state, " + one, x.state(1), 14);
        if (kind >= LOCK) {
            due("12 the KEY stays, " + one, x.thingIs(0, PLACE), 100);
        }
    }

    private static void onlyThatDoor() {
        DoorsLocks x = Worlds.ofRooms(2);
        for (int i = 0; i < 15; i++) {
            x.door(0, 1);
        }
        x.being(1);
        due("12 the last", x.act(0, OPEN_DOOR, 14), 1);
        due("12 the first", x.act(0, OPEN_DOOR, 0), 1);
        for (int door = 0; door < 15; door++) {
            due("12 only these", x.state(door), door == 0 || door == 14 ? 9 : 8);
        }
        due("12 the last", x.act(0, CLOSE_DOOR, 14), 1);
        due("12 only that", x.state(0) * 100 + x.state(14), 908);
    }

    /** Any DOOR's, the first's, the last's, one's that is not HERE or not LOCKED; not what was a KEY. */
    private static void aKeyOfAnotherDoor() {
        for (int other = 0; other < 15; other++) {
            for (int asked : new int[] {0, 7, 14}) {
                int door = other;
                World world = Worlds.rooms(3).then(x -> {
                    for (int i = 0; i < 15; i++) {
                        x.door(i == asked ? 0 : 1, i % 2 == 0 ? 2 : -1);
                    }
                    x.thing(0, SMALL, 1);
                    x.thing(0, SMALL, 1);
                    x.being(0);
                    x.handle(0, TAKE, 1);
                    x.lock(asked, 0, true);
                });
                int due = other == asked ? -14 : -15;
                World withOther = world.then(x -> due("12 KEY", door == asked ? 1 : x.lock(door, 1, false), 1));
                refused("12 a KEY of DOOR " + other, withOther, x -> x.act(0, UNLOCK, asked), due);
                World noMore = withOther.then(x -> due("12 none", door == asked ? 1 : x.lock(door, -1, false), 1));
                refused("12 was a KEY of DOOR " + other, noMore, x -> x.act(0, UNLOCK, asked), -14);
            }
        }
    }

    private static void fourThatAreNoKeys() {
        World world = Worlds.rooms(2).then(x -> {
            x.door(0, 1);
            x.being(0);
            for (int i = 0; i < 5; i++) {
                x.thing(0, SMALL, 1);
            }
            for (int i = 0; i < 4; i++) {
                x.handle(0, TAKE, i);
            }
            x.lock(0, 4, false);
        });
        refused("12 holds neither, but four", world, x -> x.act(0, LOCK, 0), -14);
        for (int i = 0; i < 4; i++) {
            int key = i;
            due("12 any of the four", world.then(x -> x.lock(0, key, false)).made().act(0, LOCK, 0), 1);
        }
    }

    private static void aDoorWithOneSide() {
        World world = Worlds.rooms(2).then(x -> {
            x.door(1, -1);
            x.being(1);
            x.being(0);
        });
        due("12 opens from its only SIDE", world.made().act(0, OPEN_DOOR, 0), 1);
        refused("12 it has no other", world, x -> x.act(1, OPEN_DOOR, 0), -10);
    }

    private static void aKeyThatIsHereButNotHeld() {
        World world = Worlds.rooms(2).then(x -> {
            x.door(0, 1);
            x.thing(0, SMALL, 1);
            x.being(0);
            x.being(0);
            x.lock(0, 0, true);
        });
        refused("12 it lies there", world, x -> x.act(0, UNLOCK, 0), -14);
        World taken = world.then(x -> x.handle(1, TAKE, 0));
        refused("12 another one holds it", taken, x -> x.act(0, UNLOCK, 0), -14);
        due("12 that one unlocks", taken.made().act(1, UNLOCK, 0), 1);
        refused("12 dropped again", taken.then(x -> x.handle(1, DROP, 0)), x -> x.act(1, UNLOCK, 0), -14);
    }

    private static void noBeing() {
        for (int kind = OPEN_DOOR; kind <= UNLOCK; kind++) {
            int ofKind = kind;
            badOutside("12 no being", Worlds::small, 0, Worlds.SMALL_BEINGS - 1, who -> x -> x.act(who, ofKind, 0));
            badOutside("12 no being", Worlds::full, 0, 5, who -> x -> x.act(who, ofKind, 0));
        }
    }

    private static void noKind() {
        badOutside("12 no kind", Worlds::small, OPEN_DOOR, UNLOCK, kind -> x -> x.act(0, kind, 0));
        badOutside("12 no kind", Worlds::full, OPEN_DOOR, UNLOCK, kind -> x -> x.act(3, kind, 0));
    }

    private static void noDoor() {
        for (int kind = OPEN_DOOR; kind <= UNLOCK; kind++) {
            int ofKind = kind;
            badOutside("12 no DOOR", Worlds::small, 0, Worlds.SMALL_DOORS - 1, door -> x -> x.act(0, ofKind, door));
            badOutside("12 no DOOR", Worlds::full, 0, 14, door -> x -> x.act(3, ofKind, door));
        }
    }

    /** The DOOR is not HERE, and a number is none. */
    private static void badAheadOfTexts() {
        refused("12 no kind, not HERE", Worlds::small, x -> x.act(2, UNLOCK + 1, 0), BAD);
        refused("12 no kind, not HERE", Worlds::small, x -> x.act(2, OPEN_DOOR - 1, 0), BAD);
        refused("12 not HERE", Worlds::small, x -> x.act(2, OPEN_DOOR, 0), -10);
    }
}
