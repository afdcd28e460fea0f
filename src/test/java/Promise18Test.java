/** Promise 18: follow. */
final class Promise18Test extends Check {
    private static final int CAR_SIZE = 5;

    private enum Being { ON_FOOT, IN_CAR, IN_BOX, SHUT_IN }

    public static void main(String[] args) {
        asGo();
        theFirstWayOfTheRoute();
        inTheSameRoom();
        itself();
        noRoute();
        stepByStep();
        theLongestRoute();
        asThingsAreNow();
        noBeing();
        noOther();
        end();
    }

    /** Being 0 is in ROOM 0, where a CAR and a BOX are, and being 1; being 2 is in ROOM 1. */
    private static World apart(Being being, WayKind way, int direction, int width) {
        return Worlds.rooms(3).then(x -> {
            x.thing(0, CAR, CAR_SIZE);
            x.thing(0, BOX, 1);
            for (int room : new int[] {0, 0, 1}) {
                x.being(room);
            }
            way.set(x, 1, 0, direction, 1);
            x.width(0, direction, width);
            if (being != Being.ON_FOOT) {
                due("18 within", x.handle(0, CLIMB, being == Being.IN_CAR ? 0 : 1), 1);
            }
            if (being == Being.SHUT_IN) {
                due("18 SHUT in", x.handle(1, SHUT, 1), 1);
            }
        });
    }

    private static void asGo() {
        for (Being being : Being.values()) {
            for (WayKind way : WayKind.values()) {
                for (int width : new int[] {CAR_SIZE - 1, CAR_SIZE}) {
                    for (int direction : new int[] {0, 7}) {
                        String what = "18 " + being + ", " + way + ", " + width + ", " + direction;
                        checkAsGo(what, apart(being, way, direction, width), way.leads() ? direction : -1);
                    }
                }
            }
        }
    }

    /** As go() by that DIRECTION, in its answer and in what is so after it; -1: there is no ROUTE. */
    private static void checkAsGo(String what, World world, int direction) {
        if (direction == -1) {
            refused(what, world, x -> x.follow(0, 2), -31);
            return;
        }
        int wanted = world.made().go(0, direction);
        due(what, world.made().follow(0, 2), wanted);
        same(what, world.then(x -> x.go(0, direction)), world.then(x -> x.follow(0, 2)));
    }

    private static void theFirstWayOfTheRoute() {
        World world = Worlds.rooms(5).then(x -> {
            x.being(0);
            x.being(0);
            x.being(3);
            x.exit(0, 1, 4);
            x.exit(0, 5, 2);
            x.exit(0, 6, 1);
            x.exit(4, 0, 1);
            x.exit(1, 0, 3);
            x.exit(2, 7, 3);
        });
        checkAsGo("18 of the fewest WAYS the least DIRECTION", world, 5);
        checkAsGo("18 of fewer WAYS the greater DIRECTION", world.then(x -> x.exit(0, 7, 3)), 7);
        checkAsGo("18 the next least", world.then(x -> x.exit(2, 7, -1)), 6);
        checkAsGo("18 the longest", world.then(x -> x.exit(2, 7, -1)).then(x -> x.exit(0, 6, -1)), 1);
        World narrow = apart(Being.IN_CAR, WayKind.TO_ROOM, 2, CAR_SIZE - 1).then(x -> x.exit(0, 5, 1));
        refused("18 no other WAY is tried", narrow, x -> x.follow(0, 2), -29);
    }

    private static void inTheSameRoom() {
        for (int room : new int[] {0, 19}) {
            for (WayKind way : new WayKind[] {WayKind.NONE, WayKind.TO_ROOM}) {
                World world = Worlds.rooms(20).then(x -> {
                    x.being(room);
                    x.being(room);
                    way.set(x, 0, room, 0, room);
                });
                refused("18 nothing is done", world, x -> x.follow(0, 1), room);
            }
        }
        World within = apart(Being.SHUT_IN, WayKind.NONE, 0, 9);
        refused("18 in the same ROOM, SHUT in", within, x -> x.follow(0, 1), 0);
        refused("18 in the same ROOM, that one is SHUT in", within, x -> x.follow(1, 0), 0);
    }

    private static void itself() {
        refused("18 itself", Worlds::small, x -> x.follow(3, 3), 3);
        refused("18 itself, SHUT in", Worlds::small, x -> x.follow(2, 2), 2);
        refused("18 itself, the last", Worlds::full, x -> x.follow(5, 5), 19);
    }

    private static void noRoute() {
        World oneWay = Worlds.rooms(3).then(x -> {
            x.being(0);
            x.being(1);
            x.exit(1, 0, 0);
            x.exit(0, 0, 2);
            x.exit(2, 0, 0);
        });
        refused("18 only the other way round", oneWay, x -> x.follow(0, 1), -31);
        due("18 the other way round", oneWay.made().follow(1, 0), 0);
        World shutIn = apart(Being.SHUT_IN, WayKind.NONE, 0, 9);
        refused("18 no ROUTE ahead of SHUT", shutIn, x -> x.follow(0, 2), -31);
        refused("18 no ROUTE ahead of SHUT", shutIn, x -> x.follow(2, 0), -31);
    }

    private static void stepByStep() {
        DoorsLocks x = Worlds.ofRooms(4);
        x.being(0);
        x.being(3);
        for (int room = 0; room < 3; room++) {
            x.exit(room, 7 - room, room + 1);
        }
        for (int room = 1; room < 4; room++) {
            due("18 one WAY at a time", x.follow(0, 1), room);
            due("18 it CAME", x.beingIs(0, CAME), room - 1);
        }
        due("18 there", x.follow(0, 1), 3);
        due("18 told once, when it came", x.beingIs(1, NEWS), 1);
        due("18 told once, when it came", x.news(1, 0), 51);
    }

    private static void theLongestRoute() {
        DoorsLocks x = Worlds.ofRooms(20);
        x.being(0);
        x.being(19);
        for (int room = 0; room < 19; room++) {
            x.exit(room, room % 8, room + 1);
        }
        for (int room = 1; room < 20; room++) {
            due("18 nineteen WAYS", x.follow(0, 1), room);
        }
        due("18 there", x.follow(0, 1), 19);
    }

    private static void asThingsAreNow() {
        World world = Worlds.rooms(3).then(x -> {
            x.being(0);
            x.being(0);
            x.being(2);
            x.turn(0, 1);
            x.turn(0, 2);
            x.exit(0, 0, 300);
            x.exit(1, 0, 300);
        });
        refused("18 the RULE LEADS to 1 all along", world, x -> x.follow(0, 2), -31);
        World turned = world.then(x -> x.go(1, 0));
        checkAsGo("18 it LEADS to 2 now", turned, 0);
        due("18 it LEADS to 2 now", turned.made().follow(0, 2), 2);
        due("18 the next one's turn", turned.then(x -> x.follow(0, 2)).made().leads(0, 0), 1);
    }

    private static void noBeing() {
        badOutside("18 no being", Worlds::small, 0, Worlds.SMALL_BEINGS - 1, who -> x -> x.follow(who, 0));
        badOutside("18 no being", Worlds::full, 0, 5, who -> x -> x.follow(who, 5));
    }

    private static void noOther() {
        badOutside("18 no other", Worlds::small, 0, Worlds.SMALL_BEINGS - 1, other -> x -> x.follow(0, other));
        badOutside("18 no other", Worlds::full, 0, 5, other -> x -> x.follow(0, other));
        badOutside("18 neither", Worlds::full, 0, 5, both -> x -> x.follow(both, both));
    }
}
