/** Promise 15: go. */
final class Promise15Test extends Check {
    private static final int CAR_SIZE = 5;

    private enum Being { ON_FOOT, IN_CAR, IN_CAR_WITH_OTHER, IN_BOX, SHUT_IN }

    /** All that the texts depend on. */
    private record Case(Being being, WayKind way, int direction, int width) {
        boolean inCar() {
            return being == Being.IN_CAR || being == Being.IN_CAR_WITH_OTHER;
        }

        /** Being 0 goes from ROOM 0 to ROOM 1, perhaps with 3; 1 stays, 2 is where it comes to, 4 elsewhere. */
        World world() {
            return Worlds.rooms(3).then(x -> {
                x.thing(0, CAR, CAR_SIZE);
                x.thing(0, BOX, 9);
                for (int room : new int[] {0, 0, 1, 0, 2}) {
                    x.being(room);
                }
                way.set(x, 1, 0, direction, 1);
                x.width(0, direction, width);
                setBeing(x);
            });
        }

        private void setBeing(DoorsLocks x) {
            if (being != Being.ON_FOOT) {
                due("15 is within", x.handle(0, CLIMB, inCar() ? 0 : 1), 1);
            }
            if (being == Being.SHUT_IN) {
                due("15 is SHUT in", x.handle(1, SHUT, 1), 1);
            }
            if (being == Being.IN_CAR_WITH_OTHER) {
                due("15 goes with it", x.handle(3, CLIMB, 0), 1);
            }
        }

        int wanted() {
            return Told.first(21, being == Being.SHUT_IN).then(24, being == Being.IN_BOX)
                    .then(way.text(), !way.leads()).then(29, inCar() && CAR_SIZE > width).or(1);
        }
    }

    public static void main(String[] args) {
        inTheOrderTold();
        blockedByEachText();
        aCarAsWideAsTheWay();
        onFootByAnyWidth();
        toItself();
        fromBothSidesOfADoor();
        allSixTogether();
        theCarOfAnotherStays();
        carriedThingsGoAlong();
        firstAndLastDirection();
        noBeing();
        noDirection();
        badAheadOfTexts();
        end();
    }

    private static void inTheOrderTold() {
        for (Being being : Being.values()) {
            for (WayKind way : WayKind.values()) {
                for (int width : new int[] {1, CAR_SIZE - 1, CAR_SIZE, 9}) {
                    checkCase(new Case(being, way, 0, width));
                    checkCase(new Case(being, way, 7, width));
                }
            }
        }
    }

    private static void checkCase(Case one) {
        int direction = one.direction();
        if (one.wanted() != 1) {
            refused("15 " + one, one.world(), x -> x.go(0, direction), one.wanted());
            return;
        }
        DoorsLocks x = one.world().made();
        boolean together = one.being() == Being.IN_CAR_WITH_OTHER;
        due("15 " + one, x.go(0, direction), 1);
        int[] rooms = {1, 0, 1, together ? 1 : 0, 2};
        for (int who = 0; who < 5; who++) {
            boolean goes = who == 0 || who == 3 && together;
            due("15 ROOM of " + who + ", " + one, x.beingIs(who, ROOM), rooms[who]);
            due("15 CAME of " + who + ", " + one, x.beingIs(who, CAME), goes ? 0 : NO_SUCH);
            int told = who == 4 || goes ? 0 : together ? 2 : 1;
            due("15 NEWS of " + who + ", " + one, x.beingIs(who, NEWS), told);
        }
        due("15 the CAR, " + one, x.thingIs(0, PLACE), one.inCar() ? 1 : 0);
        due("15 within, " + one, x.beingIs(0, WITHIN), one.inCar() ? 0 : NO_SUCH);
        due("15 the BOX stays, " + one, x.thingIs(1, PLACE), 0);
    }

    private static void blockedByEachText() {
        for (int text = 0; text < 50; text++) {
            int way = 200 + text;
            World world = Worlds.rooms(2).then(x -> x.being(0)).then(x -> x.exit(0, 0, way));
            refused("15 BLOCKED by text " + text, world, x -> x.go(0, 0), -50 - text);
        }
    }

    private static World ofCar(int size, int width) {
        return Worlds.rooms(2).then(x -> {
            x.thing(0, CAR, size);
            x.being(0);
            x.exit(0, 0, 1);
            x.width(0, 0, width);
            x.handle(0, CLIMB, 0);
        });
    }

    private static void aCarAsWideAsTheWay() {
        for (int size = 1; size <= 9; size++) {
            for (int width = 1; width <= 9; width++) {
                if (size > width) {
                    refused("15 SIZE " + size + " by " + width, ofCar(size, width), x -> x.go(0, 0), -29);
                } else {
                    due("15 SIZE " + size + " by " + width, ofCar(size, width).made().go(0, 0), 1);
                }
            }
        }
    }

    private static void onFootByAnyWidth() {
        for (int width = 1; width <= 9; width++) {
            DoorsLocks x = ofCar(9, width).made();
            x.leave(0);
            due("15 on foot by WIDTH " + width, x.go(0, 0), 1);
            due("15 without the CAR", x.thingIs(0, PLACE), 0);
        }
    }

    private static void toItself() {
        DoorsLocks x = Worlds.ofRooms(20);
        x.being(19);
        x.exit(19, 7, 19);
        due("15 to where it is", x.go(0, 7), 19);
        due("15 it CAME from there", x.beingIs(0, CAME), 19);
    }

    private static void fromBothSidesOfADoor() {
        DoorsLocks x = Worlds.ofRooms(20);
        x.door(19, 0);
        x.exit(0, 0, 100);
        x.exit(0, 1, 100);
        x.exit(19, 1, 100);
        x.being(0);
        x.act(0, OPEN_DOOR, 0);
        due("15 to the other SIDE", x.go(0, 0), 19);
        due("15 and back", x.go(0, 1), 0);
        due("15 by another WAY through it", x.go(0, 1), 19);
        x.act(0, CLOSE_DOOR, 0);
        due("15 closed from there", x.go(0, 1), -26);
    }

    private static void allSixTogether() {
        for (int driver = 0; driver < 6; driver++) {
            DoorsLocks x = Worlds.ofRooms(2);
            x.thing(0, CAR, 9);
            x.exit(0, 4, 1);
            for (int who = 0; who < 6; who++) {
                x.being(0);
                x.handle(who, CLIMB, 0);
            }
            due("15 all go", x.go(driver, 4), 1);
            for (int who = 0; who < 6; who++) {
                due("15 there", x.beingIs(who, ROOM), 1);
                due("15 CAME", x.beingIs(who, CAME), 0);
                due("15 within still", x.beingIs(who, WITHIN), 0);
                due("15 nobody is left to be told", x.beingIs(who, NEWS), 0);
            }
        }
    }

    private static void theCarOfAnotherStays() {
        DoorsLocks x = Worlds.ofRooms(2);
        x.exit(0, 0, 1);
        for (int who = 0; who < 3; who++) {
            x.thing(0, CAR, 1);
            x.being(0);
        }
        x.handle(0, CLIMB, 0);
        x.handle(1, CLIMB, 1);
        due("15 by its CAR", x.go(0, 0), 1);
        due("15 another CAR", x.thingIs(1, PLACE), 0);
        due("15 one within another CAR", x.beingIs(1, ROOM), 0);
        due("15 an empty CAR", x.thingIs(2, PLACE), 0);
        due("15 one on foot", x.beingIs(2, ROOM), 0);
    }

    private static void carriedThingsGoAlong() {
        DoorsLocks x = Worlds.ofRooms(2);
        x.exit(0, 0, 1);
        x.being(0);
        for (int i = 0; i < 5; i++) {
            x.thing(0, SMALL, 9);
            x.handle(0, TAKE, i);
        }
        x.width(0, 0, 1);
        due("15 with four in its hands", x.go(0, 0), 1);
        for (int i = 0; i < 4; i++) {
            due("15 held still", x.thingIs(i, PLACE), 100);
        }
        due("15 what is not held stays", x.thingIs(4, PLACE), 0);
    }

    private static void firstAndLastDirection() {
        DoorsLocks x = Worlds.ofRooms(9);
        x.being(0);
        x.exit(0, 0, 1);
        x.exit(0, 7, 8);
        for (int room = 1; room < 9; room++) {
            x.exit(room, 3, 0);
        }
        due("15 the least", x.go(0, 0), 1);
        due("15 and back", x.go(0, 3), 0);
        due("15 the greatest", x.go(0, 7), 8);
        due("15 no WAY of the OPPOSITE by itself", x.go(0, 6), -25);
    }

    private static void noBeing() {
        badOutside("15 no being", Worlds::small, 0, Worlds.SMALL_BEINGS - 1, who -> x -> x.go(who, 2));
        badOutside("15 no being", Worlds::full, 0, 5, who -> x -> x.go(who, 7));
    }

    private static void noDirection() {
        badOutside("15 no DIRECTION", Worlds::small, 0, 7, direction -> x -> x.go(0, direction));
        for (int who : new int[] {0, 1, 3, 5}) {
            badOutside("15 no DIRECTION", Worlds::full, 0, 7, direction -> x -> x.go(who, direction));
        }
    }

    /** Being 2 is within a SHUT BOX in both worlds. */
    private static void badAheadOfTexts() {
        badOutside("15 BAD ahead of SHUT", Worlds::small, 0, 7, direction -> x -> x.go(2, direction));
        badOutside("15 BAD ahead of SHUT", Worlds::full, 0, 7, direction -> x -> x.go(2, direction));
    }
}
