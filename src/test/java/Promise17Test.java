/** Promise 17: back. */
final class Promise17Test extends Check {
    private static final int CAR_SIZE = 5;

    private enum Being { ON_FOOT, IN_CAR, IN_BOX, SHUT_IN }

    public static void main(String[] args) {
        cameFromNone();
        asGo();
        theLeastDirectionThatLeadsThere();
        onlyTheFirstOrTheLastDirection();
        notByAnotherWay();
        toRoomNoughtIsNoughtToo();
        cameFromWhereItIs();
        thereAndBackAgain();
        pushedAndCarriedOnesCameToo();
        byARule();
        noBeing();
        end();
    }

    private static void cameFromNone() {
        World world = Worlds.rooms(2).then(x -> {
            x.being(0);
            x.being(1);
            for (int direction = 0; direction < 8; direction++) {
                x.exit(0, direction, direction % 2);
            }
        });
        refused("17 CAME from none", world, x -> x.back(0), 0);
        refused("17 CAME from none, no WAY", world, x -> x.back(1), 0);
    }

    /** Being 0 has come from ROOM 1 to ROOM 0, where a CAR and a BOX are, and being 1. */
    private static World came(Being being, WayKind way, int direction, int width) {
        return Worlds.rooms(3).then(x -> {
            x.thing(0, CAR, CAR_SIZE);
            x.thing(0, BOX, 1);
            for (int room : new int[] {1, 0, 1}) {
                x.being(room);
            }
            x.exit(1, 0, 0);
            due("17 comes", x.go(0, 0), 0);
            way.set(x, 1, 0, direction, 1);
            x.width(0, direction, width);
            if (being != Being.ON_FOOT) {
                due("17 within", x.handle(0, CLIMB, being == Being.IN_CAR ? 0 : 1), 1);
            }
            if (being == Being.SHUT_IN) {
                due("17 SHUT in", x.handle(1, SHUT, 1), 1);
            }
        });
    }

    private static void asGo() {
        for (Being being : Being.values()) {
            for (WayKind way : WayKind.values()) {
                for (int width : new int[] {CAR_SIZE - 1, CAR_SIZE}) {
                    for (int direction : new int[] {0, 7}) {
                        String what = "17 " + being + ", " + way + ", " + width + ", " + direction;
                        checkAsGo(what, came(being, way, direction, width), way.leads() ? direction : -1);
                    }
                }
            }
        }
    }

    /** As go() by that DIRECTION, in its answer and in what is so after it; -1: no WAY LEADS there. */
    private static void checkAsGo(String what, World world, int direction) {
        if (direction == -1) {
            refused(what, world, x -> x.back(0), 0);
            return;
        }
        due(what, world.made().back(0), world.made().go(0, direction));
        same(what, world.then(x -> x.go(0, direction)), world.then(x -> x.back(0)));
    }

    private static void theLeastDirectionThatLeadsThere() {
        for (int least = 0; least < 8; least++) {
            int from = least;
            World world = Worlds.rooms(3).then(x -> {
                x.being(1);
                x.being(0);
                x.exit(1, 0, 0);
                x.go(0, 0);
                for (int direction = 0; direction < 8; direction++) {
                    x.exit(0, direction, direction < from ? 2 : 1);
                }
            });
            checkAsGo("17 the least is " + least, world, least);
            DoorsLocks x = world.made();
            x.back(0);
            due("17 the least is told", x.news(1, 0), 10 * least);
        }
    }

    private static void onlyTheFirstOrTheLastDirection() {
        for (int direction = 0; direction < 8; direction++) {
            checkAsGo("17 only by " + direction, came(Being.ON_FOOT, WayKind.TO_ROOM, direction, 9), direction);
        }
    }

    /** The least one LEADS there, but is too narrow for the CAR: no other one is tried. */
    private static void notByAnotherWay() {
        World world = came(Being.IN_CAR, WayKind.TO_ROOM, 2, CAR_SIZE - 1).then(x -> x.exit(0, 5, 1));
        refused("17 the least is too narrow", world, x -> x.back(0), -29);
        World closed = came(Being.ON_FOOT, WayKind.CLOSED, 2, 9).then(x -> x.exit(0, 5, 1));
        checkAsGo("17 a lesser one does not LEAD there", closed, 5);
        World elsewhere = came(Being.ON_FOOT, WayKind.NONE, 2, 9).then(x -> x.exit(0, 5, 2));
        refused("17 it LEADS elsewhere", elsewhere, x -> x.back(0), 0);
    }

    private static void toRoomNoughtIsNoughtToo() {
        DoorsLocks x = Worlds.ofRooms(2);
        x.being(0);
        x.exit(0, 0, 1);
        x.go(0, 0);
        due("17 no WAY", x.back(0), 0);
        due("17 so it stays", x.beingIs(0, ROOM), 1);
        x.exit(1, 1, 0);
        due("17 goes to ROOM 0", x.back(0), 0);
        due("17 so it is there", x.beingIs(0, ROOM), 0);
    }

    private static void cameFromWhereItIs() {
        World world = Worlds.rooms(2).then(x -> {
            x.being(1);
            x.exit(1, 6, 1);
            x.go(0, 6);
        });
        checkAsGo("17 to where it is", world, 6);
        due("17 to where it is", world.made().back(0), 1);
        refused("17 by no WAY any more", world.then(x -> x.exit(1, 6, 0)), x -> x.back(0), 0);
    }

    private static void thereAndBackAgain() {
        DoorsLocks x = Worlds.ofRooms(20);
        x.being(18);
        x.exit(18, 7, 19);
        x.exit(19, 0, 18);
        x.go(0, 7);
        for (int i = 0; i < 4; i++) {
            due("17 back", x.back(0), i % 2 == 0 ? 18 : 19);
            due("17 from where it was", x.beingIs(0, CAME), i % 2 == 0 ? 19 : 18);
        }
    }

    private static void pushedAndCarriedOnesCameToo() {
        World world = Worlds.rooms(2).then(x -> {
            x.thing(0, CAR, 1);
            x.being(0);
            x.being(0);
            x.exit(0, 0, 1);
            x.exit(1, 1, 0);
            x.handle(0, CLIMB, 0);
        });
        World pushed = world.then(x -> due("17 is pushed", x.push(1, 0, 0), 1));
        due("17 with its CAR to where it was pushed from", pushed.then(x -> x.back(0)).made().thingIs(0, PLACE), 0);
        World carried = world.then(x -> x.handle(1, CLIMB, 0)).then(x -> due("17 is carried", x.go(0, 0), 1));
        due("17 the other one drives back", carried.then(x -> x.back(1)).made().thingIs(0, PLACE), 0);
        World left = carried.then(x -> x.leave(1)).then(x -> x.back(1));
        due("17 or goes back on foot", left.made().beingIs(1, ROOM), 0);
        due("17 or goes back on foot", left.made().thingIs(0, PLACE), 1);
    }

    private static void byARule() {
        World world = Worlds.rooms(3).then(x -> {
            x.being(1);
            x.exit(1, 0, 0);
            x.turn(2, 2);
            x.turn(2, 1);
            x.exit(0, 3, 302);
            x.go(0, 0);
        });
        refused("17 it is not that one's turn", world, x -> x.back(0), 0);
        World turned = world.then(x -> {
            x.being(0);
            due("17 another one goes by it", x.go(1, 3), 2);
        });
        checkAsGo("17 its turn", turned, 3);
        due("17 its turn", turned.made().back(0), 1);
        due("17 the first one's turn then", turned.then(x -> x.back(0)).made().leads(0, 3), 2);
    }

    private static void noBeing() {
        badOutside("17 no being", Worlds::small, 0, Worlds.SMALL_BEINGS - 1, who -> x -> x.back(who));
        badOutside("17 no being", Worlds::full, 0, 5, who -> x -> x.back(who));
    }
}
