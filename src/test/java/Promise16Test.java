/** Promise 16: push. */
final class Promise16Test extends Check {
    private static final int PUSHED_SIZE = 5;

    /** Where the THING is: in the being's ROOM, in another, in its hands or another's; where it FLOATs. */
    private enum Where { IN_ROOM, FAR, HELD, TAKEN, FLOATING_IN_ROOM, FLOATING_FAR }

    /** What the being is within: nothing, another CAR, another BOX, that BOX and it is SHUT, or the THING itself. */
    private enum Being { ON_FOOT, IN_CAR, IN_BOX, SHUT_IN, IN_IT, SHUT_IN_IT }

    /** All that the texts depend on. */
    private record Case(int sort, Where where, Being being, WayKind way, int width) {
        boolean canBe() {
            boolean small = where != Where.HELD && where != Where.TAKEN || sort == SMALL;
            boolean heavy = where != Where.FLOATING_IN_ROOM && where != Where.FLOATING_FAR || sort == HEAVY;
            boolean inIt = being != Being.IN_IT && being != Being.SHUT_IN_IT || where == Where.IN_ROOM && sort >= CAR;
            return small && heavy && inIt && (being != Being.SHUT_IN_IT || sort == BOX);
        }

        /** THING 0 is pushed by being 0 from ROOM 0 to ROOM 1; 1 another CAR, 2 another BOX; being 1 helps. */
        World world() {
            return Worlds.rooms(3).then(x -> {
                x.thing(where == Where.FAR ? 1 : 0, sort, PUSHED_SIZE);
                x.thing(0, CAR, 1);
                x.thing(0, BOX, 1);
                x.region(3, 0, true);
                x.region(4, 1, true);
                for (int room : new int[] {0, 0, 1, 2}) {
                    x.being(room);
                }
                way.set(x, 1, 0, 3, 1);
                x.width(0, 3, width);
                setThing(x);
                setBeing(x);
            });
        }

        private void setThing(DoorsLocks x) {
            switch (where) {
                case HELD -> due("16 holds it", x.handle(0, TAKE, 0), 1);
                case TAKEN -> due("16 another one holds it", x.handle(1, TAKE, 0), 1);
                case FLOATING_IN_ROOM -> due("16 FLOATs", x.floats(0, 3), 1);
                case FLOATING_FAR -> due("16 FLOATs", x.floats(0, 4), 1);
                default -> due("16 is in its ROOM", x.thingIs(0, PLACE), where == Where.FAR ? 1 : 0);
            }
        }

        private void setBeing(DoorsLocks x) {
            switch (being) {
                case IN_CAR -> due("16 within", x.handle(0, CLIMB, 1), 1);
                case IN_BOX -> due("16 within", x.handle(0, CLIMB, 2), 1);
                case SHUT_IN -> due("16 SHUT in", x.handle(0, CLIMB, 2) + x.handle(1, SHUT, 2), 2);
                case IN_IT -> due("16 within", x.handle(0, CLIMB, 0), 1);
                case SHUT_IN_IT -> due("16 SHUT in", x.handle(0, CLIMB, 0) + x.handle(1, SHUT, 0), 2);
                default -> due("16 within nothing", x.beingIs(0, WITHIN), NO_SUCH);
            }
        }

        boolean here() {
            if (where == Where.HELD || being == Being.SHUT_IN) {
                return where == Where.HELD;
            }
            return where == Where.IN_ROOM || where == Where.FLOATING_IN_ROOM;
        }

        int wanted() {
            boolean floats = where == Where.FLOATING_IN_ROOM || where == Where.FLOATING_FAR;
            return Told.first(10, !here()).then(30, sort == SMALL || floats).then(20, being != Being.ON_FOOT)
                    .then(way.text(), !way.leads()).then(29, PUSHED_SIZE > width).or(1);
        }
    }

    public static void main(String[] args) {
        inTheOrderTold();
        asWideAsTheWay();
        withAllThatAreWithin();
        withFiveWithin();
        otherThingsStay();
        byARuleOnce();
        toItself();
        aShutBox();
        noBeing();
        noThing();
        noDirection();
        badAheadOfTexts();
        end();
    }

    private static void inTheOrderTold() {
        for (int sort = SMALL; sort <= BOX; sort++) {
            for (Where where : Where.values()) {
                for (Being being : Being.values()) {
                    for (WayKind way : WayKind.values()) {
                        checkCase(new Case(sort, where, being, way, PUSHED_SIZE - 1));
                        checkCase(new Case(sort, where, being, way, PUSHED_SIZE));
                    }
                }
            }
        }
    }

    private static void checkCase(Case one) {
        if (!one.canBe()) {
            return;
        }
        if (one.wanted() != 1) {
            refused("16 " + one, one.world(), x -> x.push(0, 0, 3), one.wanted());
            return;
        }
        DoorsLocks x = one.world().made();
        due("16 " + one, x.push(0, 0, 3), 1);
        due("16 the THING is there, " + one, x.thingIs(0, PLACE), 1);
        due("16 the being is there, " + one, x.beingIs(0, ROOM), 1);
        due("16 on foot, " + one, x.beingIs(0, WITHIN), NO_SUCH);
        due("16 it CAME, " + one, x.beingIs(0, CAME), 0);
        due("16 told where it goes from, " + one, x.news(1, 0), 30);
        due("16 told where it comes to, " + one, x.news(2, 0), 31);
        due("16 not told elsewhere, " + one, x.beingIs(3, NEWS), 0);
        due("16 another one stays, " + one, x.beingIs(1, ROOM), 0);
    }

    private static void asWideAsTheWay() {
        for (int sort = HEAVY; sort <= BOX; sort++) {
            for (int size = 1; size <= 9; size++) {
                for (int width = 1; width <= 9; width++) {
                    int[] told = {sort, size, width};
                    World world = Worlds.rooms(2).then(x -> {
                        x.thing(0, told[0], told[1]);
                        x.being(0);
                        x.exit(0, 0, 1);
                        x.width(0, 0, told[2]);
                    });
                    due("16 SIZE " + size + " by " + width, world.made().push(0, 0, 0), size > width ? -29 : 1);
                }
            }
        }
    }

    /** Beings 0 and 2 are within, 1 pushes, 3 stays, 4 is where they come to. */
    private static World ofTwoWithin(int sort) {
        return Worlds.rooms(2).then(x -> {
            x.thing(0, sort, 1);
            for (int room : new int[] {0, 0, 0, 0, 1}) {
                x.being(room);
            }
            x.exit(0, 6, 1);
            x.handle(0, CLIMB, 0);
            x.handle(2, CLIMB, 0);
        });
    }

    private static void withAllThatAreWithin() {
        for (int sort : new int[] {CAR, BOX}) {
            DoorsLocks x = ofTwoWithin(sort).made();
            due("16 pushes all", x.push(1, 0, 6), 1);
            for (int who = 0; who < 3; who++) {
                due("16 there", x.beingIs(who, ROOM), 1);
                due("16 each CAME", x.beingIs(who, CAME), 0);
                due("16 those that go together are not told", x.beingIs(who, NEWS), 0);
                due("16 within still", x.beingIs(who, WITHIN), who == 1 ? NO_SUCH : 0);
            }
            due("16 the other stays", x.beingIs(3, ROOM), 0);
            due("16 told of each", x.beingIs(3, NEWS), 3);
            due("16 told of each", x.beingIs(4, NEWS), 3);
            for (int i = 0; i < 3; i++) {
                due("16 by their numbers", x.news(3, i), (2 - i) * 1000 + 60);
                due("16 by their numbers", x.news(4, i), (2 - i) * 1000 + 61);
            }
        }
    }

    private static void withFiveWithin() {
        DoorsLocks x = Worlds.ofRooms(2);
        x.thing(0, BOX, 9);
        x.exit(0, 0, 1);
        for (int who = 0; who < 6; who++) {
            x.being(0);
            if (who < 5) {
                x.handle(who, CLIMB, 0);
            }
        }
        due("16 the last pushes all the others", x.push(5, 0, 0), 1);
        for (int who = 0; who < 6; who++) {
            due("16 all are there", x.beingIs(who, ROOM), 1);
        }
    }

    private static void otherThingsStay() {
        DoorsLocks x = Worlds.ofRooms(2);
        x.being(0);
        x.exit(0, 0, 1);
        for (int i = 0; i < 5; i++) {
            x.thing(0, i < 2 ? SMALL : HEAVY, 1);
        }
        x.handle(0, TAKE, 0);
        due("16 pushes", x.push(0, 3, 0), 1);
        int[] places = {100, 0, 0, 1, 0};
        for (int i = 0; i < 5; i++) {
            due("16 only that one, and what is held", x.thingIs(i, PLACE), places[i]);
        }
        due("16 what is left behind is not HERE", x.push(0, 2, 0), -10);
    }

    private static void byARuleOnce() {
        DoorsLocks x = Worlds.ofRooms(3);
        x.thing(0, CAR, 1);
        for (int who = 0; who < 3; who++) {
            x.being(0);
        }
        x.handle(1, CLIMB, 0);
        x.handle(2, CLIMB, 0);
        for (int room = 0; room < 3; room++) {
            x.turn(0, room == 0 ? 1 : room == 1 ? 2 : 0);
            x.exit(room, 0, 300);
        }
        due("16 by the first", x.push(0, 0, 0), 1);
        due("16 those that go together once", x.leads(1, 0), 2);
        due("16 by the second", x.push(0, 0, 0), 2);
        due("16 by the last", x.push(0, 0, 0), 0);
        due("16 and round", x.push(0, 0, 0), 1);
    }

    private static void toItself() {
        DoorsLocks x = Worlds.ofRooms(1);
        x.thing(0, HEAVY, 1);
        x.being(0);
        x.being(0);
        x.exit(0, 0, 0);
        due("16 to where it is", x.push(0, 0, 0), 0);
        due("16 it is there", x.thingIs(0, PLACE), 0);
        due("16 it CAME from there", x.beingIs(0, CAME), 0);
        due("16 both are told", x.beingIs(1, NEWS), 2);
    }

    private static void aShutBox() {
        DoorsLocks x = ofTwoWithin(BOX).then(y -> y.handle(3, SHUT, 0)).made();
        due("16 pushes", x.push(1, 0, 6), 1);
        due("16 who is SHUT in goes too", x.beingIs(0, ROOM), 1);
        due("16 SHUT still", x.thingIs(0, IS_SHUT), 1);
        due("16 SHUT still", x.leave(0), -21);
        due("16 opens from within", x.handle(0, OPEN, 0), 1);
        due("16 climbs out", x.leave(0), 1);
    }

    private static void noBeing() {
        badOutside("16 no being", Worlds::small, 0, Worlds.SMALL_BEINGS - 1, who -> x -> x.push(who, 3, 2));
        badOutside("16 no being", Worlds::full, 0, 5, who -> x -> x.push(who, 8, 7));
    }

    private static void noThing() {
        badOutside("16 no THING", Worlds::small, 0, Worlds.SMALL_THINGS - 1, thing -> x -> x.push(0, thing, 2));
        badOutside("16 no THING", Worlds::full, 0, 29, thing -> x -> x.push(3, thing, 7));
    }

    private static void noDirection() {
        badOutside("16 no DIRECTION", Worlds::small, 0, 7, direction -> x -> x.push(0, 3, direction));
        badOutside("16 no DIRECTION", Worlds::full, 0, 7, direction -> x -> x.push(3, 8, direction));
    }

    private static void badAheadOfTexts() {
        badOutside("16 BAD ahead of not HERE", Worlds::small, 0, 7, direction -> x -> x.push(0, 6, direction));
        badOutside("16 BAD ahead of SMALL", Worlds::small, 0, 7, direction -> x -> x.push(0, 0, direction));
        badOutside("16 BAD ahead of within", Worlds::small, 0, 7, direction -> x -> x.push(1, 3, direction));
    }
}
