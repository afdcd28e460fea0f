/** Promise 13: handle. */
final class Promise13Test extends Check {
    /** Where the THING is: in the being's ROOM, in another, held by the being, by another; where it FLOATs. */
    private enum Where { IN_ROOM, FAR, HELD, TAKEN, FLOATING_IN_ROOM, FLOATING_FAR }

    /** What the being is within: nothing, another CAR, another BOX, that BOX and it is SHUT, or the THING itself. */
    private enum Being { ON_FOOT, IN_CAR, IN_BOX, SHUT_IN, IN_IT }

    /** All that the texts depend on; hands: how many other THINGS it holds. */
    private record Case(int kind, int sort, Where where, boolean shut, Being being, int hands) {
        boolean canBe() {
            boolean small = where != Where.HELD && where != Where.TAKEN || sort == SMALL;
            boolean heavy = where != Where.FLOATING_IN_ROOM && where != Where.FLOATING_FAR || sort == HEAVY;
            boolean inIt = being != Being.IN_IT || where == Where.IN_ROOM && sort >= CAR;
            return small && heavy && inIt && (!shut || sort == BOX) && (where != Where.HELD || hands < 4);
        }

        /** THING 0 is the one asked for, 1 another CAR, 2 another BOX, 3 .. 6 SMALL; being 0 is asked. */
        World world() {
            return Worlds.rooms(2).then(x -> {
                x.thing(where == Where.FAR ? 1 : 0, sort, 1);
                x.thing(0, CAR, 1);
                x.thing(0, BOX, 1);
                for (int i = 0; i < 4; i++) {
                    x.thing(0, SMALL, 1);
                }
                x.region(3, 0, true);
                x.region(4, 1, true);
                for (int room : new int[] {0, 0, 1}) {
                    x.being(room);
                }
                setThing(x);
                setBeing(x);
                setShut(x);
            });
        }

        private void setThing(DoorsLocks x) {
            switch (where) {
                case HELD -> due("13 holds it", x.handle(0, TAKE, 0), 1);
                case TAKEN -> due("13 another one holds it", x.handle(1, TAKE, 0), 1);
                case FLOATING_IN_ROOM -> due("13 FLOATs", x.floats(0, 3), 1);
                case FLOATING_FAR -> due("13 FLOATs", x.floats(0, 4), 1);
                default -> due("13 is in its ROOM", x.thingIs(0, PLACE), where == Where.FAR ? 1 : 0);
            }
        }

        private void setBeing(DoorsLocks x) {
            for (int i = 0; i < hands; i++) {
                due("13 holds another", x.handle(0, TAKE, 3 + i), 1);
            }
            switch (being) {
                case IN_CAR -> due("13 within", x.handle(0, CLIMB, 1), 1);
                case IN_BOX -> due("13 within", x.handle(0, CLIMB, 2), 1);
                case SHUT_IN -> due("13 SHUT in", x.handle(0, CLIMB, 2) + x.handle(1, SHUT, 2), 2);
                case IN_IT -> due("13 within", x.handle(0, CLIMB, 0), 1);
                default -> due("13 within nothing", x.beingIs(0, WITHIN), NO_SUCH);
            }
        }

        private void setShut(DoorsLocks x) {
            if (shut) {
                due("13 SHUT", x.handle(where == Where.FAR ? 2 : 1, SHUT, 0), 1);
            }
        }

        boolean here() {
            if (where == Where.HELD) {
                return true;
            }
            if (being == Being.SHUT_IN) {
                return false;
            }
            return where == Where.IN_ROOM || where == Where.FLOATING_IN_ROOM;
        }

        int wanted() {
            boolean held = where == Where.HELD;
            if (kind == DROP) {
                return Told.first(18, !held).or(1);
            }
            Told told = Told.first(10, !here());
            if (kind == TAKE) {
                told.then(11, held).then(16, sort != SMALL).then(17, hands == 4);
            } else if (kind == CLIMB) {
                told.then(19, sort < CAR).then(20, being != Being.ON_FOOT).then(21, shut);
            } else {
                told.then(22, sort != BOX).then(11, shut == (kind == SHUT));
            }
            return told.or(1);
        }
    }

    public static void main(String[] args) {
        inTheOrderTold();
        fourAreHeldAtMost();
        whatIsDroppedIsInItsRoom();
        withOthersWithin();
        firstAndLastThing();
        fromWithinAShutBox();
        noBeing();
        noKind();
        noThing();
        badAheadOfTexts();
        end();
    }

    private static void inTheOrderTold() {
        for (int kind = TAKE; kind <= SHUT; kind++) {
            for (int sort = SMALL; sort <= BOX; sort++) {
                for (Where where : Where.values()) {
                    for (Being being : Being.values()) {
                        for (int hands : new int[] {0, 3, 4}) {
                            checkCase(new Case(kind, sort, where, false, being, hands));
                            checkCase(new Case(kind, sort, where, true, being, hands));
                        }
                    }
                }
            }
        }
    }

    private static void checkCase(Case one) {
        if (!one.canBe()) {
            return;
        }
        int kind = one.kind();
        if (one.wanted() != 1) {
            refused("13 " + one, one.world(), x -> x.handle(0, kind, 0), one.wanted());
            return;
        }
        DoorsLocks x = one.world().made();
        due("13 " + one, x.handle(0, kind, 0), 1);
        int held = one.hands() + (kind == TAKE || one.where() == Where.HELD && kind != DROP ? 1 : 0);
        due("13 holds, " + one, x.beingIs(0, HELD), held);
        switch (kind) {
            case TAKE -> due("13 is held, " + one, x.thingIs(0, PLACE), 100);
            case DROP -> due("13 is in its ROOM, " + one, x.thingIs(0, PLACE), 0);
            case CLIMB -> due("13 is within, " + one, x.beingIs(0, WITHIN), 0);
            default -> due("13 is SHUT, " + one, x.thingIs(0, IS_SHUT), kind == SHUT ? 1 : 0);
        }
    }

    private static World ofFiveSmall() {
        return Worlds.rooms(1).then(x -> {
            for (int i = 0; i < 5; i++) {
                x.thing(0, SMALL, 9);
            }
            x.being(0);
            x.being(0);
        });
    }

    private static void fourAreHeldAtMost() {
        DoorsLocks x = ofFiveSmall().made();
        for (int i = 0; i < 4; i++) {
            due("13 takes", x.handle(0, TAKE, i), 1);
            due("13 holds", x.beingIs(0, HELD), i + 1);
        }
        due("13 the fifth", x.handle(0, TAKE, 4), -17);
        due("13 another being takes it", x.handle(1, TAKE, 4), 1);
        due("13 drops one", x.handle(0, DROP, 2), 1);
        due("13 another being drops it", x.handle(1, DROP, 4), 1);
        due("13 takes it instead", x.handle(0, TAKE, 4), 1);
        due("13 the fifth again", x.handle(0, TAKE, 2), -17);
        for (int i : new int[] {0, 1, 3, 4}) {
            due("13 drops", x.handle(0, DROP, i), 1);
        }
        due("13 holds nothing", x.beingIs(0, HELD), 0);
        due("13 holds nothing to drop", x.handle(0, DROP, 0), -18);
    }

    private static void whatIsDroppedIsInItsRoom() {
        DoorsLocks x = Worlds.ofRooms(20);
        x.thing(0, SMALL, 1);
        x.being(0);
        x.exit(0, 0, 19);
        x.handle(0, TAKE, 0);
        x.go(0, 0);
        due("13 carried along", x.thingIs(0, PLACE), 100);
        due("13 drops", x.handle(0, DROP, 0), 1);
        due("13 in the ROOM to which it was carried", x.thingIs(0, PLACE), 19);
        due("13 HERE there", x.here(0, HERE_THING, 0), true);
    }

    private static void withOthersWithin() {
        for (int sort : new int[] {CAR, BOX}) {
            DoorsLocks x = Worlds.ofRooms(1);
            x.thing(0, sort, 1);
            for (int who = 0; who < 6; who++) {
                x.being(0);
                due("13 with all the others", x.handle(who, CLIMB, 0), 1);
            }
            for (int who = 0; who < 6; who++) {
                due("13 within", x.beingIs(who, WITHIN), 0);
            }
        }
    }

    private static void firstAndLastThing() {
        DoorsLocks x = Worlds.ofRooms(1);
        for (int i = 0; i < 30; i++) {
            x.thing(0, i < 2 ? SMALL : BOX, 1);
        }
        for (int i = 0; i < 6; i++) {
            x.being(0);
        }
        due("13 the last being takes the first", x.handle(5, TAKE, 0), 1);
        due("13 the last being", x.thingIs(0, PLACE), 105);
        due("13 shuts the last", x.handle(5, SHUT, 29), 1);
        due("13 not the last but one", x.thingIs(28, IS_SHUT), 0);
        due("13 opens the last", x.handle(5, OPEN, 29), 1);
        due("13 climbs into the last", x.handle(5, CLIMB, 29), 1);
        due("13 within the last", x.beingIs(5, WITHIN), 29);
    }

    private static void fromWithinAShutBox() {
        World world = Worlds.rooms(1).then(x -> {
            x.thing(0, BOX, 1);
            x.thing(0, SMALL, 1);
            x.being(0);
            x.handle(0, TAKE, 1);
            x.handle(0, CLIMB, 0);
            x.handle(0, SHUT, 0);
        });
        World dropped = world.then(x -> x.handle(0, DROP, 1));
        due("13 drops", world.made().handle(0, DROP, 1), 1);
        due("13 it is in the ROOM, not in the BOX", dropped.made().thingIs(1, PLACE), 0);
        refused("13 so it is not HERE", dropped, x -> x.handle(0, TAKE, 1), -10);
        due("13 opens from within", world.made().handle(0, OPEN, 0), 1);
        due("13 HERE again", dropped.then(x -> x.handle(0, OPEN, 0)).made().handle(0, TAKE, 1), 1);
    }

    private static void noBeing() {
        for (int kind = TAKE; kind <= SHUT; kind++) {
            int ofKind = kind;
            badOutside("13 no being", Worlds::small, 0, Worlds.SMALL_BEINGS - 1,
                    who -> x -> x.handle(who, ofKind, 2));
            badOutside("13 no being", Worlds::full, 0, 5, who -> x -> x.handle(who, ofKind, 4));
        }
    }

    private static void noKind() {
        badOutside("13 no kind", Worlds::small, TAKE, SHUT, kind -> x -> x.handle(0, kind, 2));
        badOutside("13 no kind, of a BOX", Worlds::small, TAKE, SHUT, kind -> x -> x.handle(2, kind, 7));
    }

    private static void noThing() {
        for (int kind = TAKE; kind <= SHUT; kind++) {
            int ofKind = kind;
            badOutside("13 no THING", Worlds::small, 0, Worlds.SMALL_THINGS - 1,
                    thing -> x -> x.handle(0, ofKind, thing));
            badOutside("13 no THING", Worlds::full, 0, 29, thing -> x -> x.handle(3, ofKind, thing));
        }
    }

    private static void badAheadOfTexts() {
        refused("13 no kind, not HERE", Worlds::small, x -> x.handle(2, SHUT + 1, 2), BAD);
        refused("13 no kind, not HERE", Worlds::small, x -> x.handle(2, TAKE - 1, 2), BAD);
        refused("13 not HERE", Worlds::small, x -> x.handle(2, TAKE, 2), -10);
    }
}
