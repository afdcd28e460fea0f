/** Promise 19: route. */
final class Promise19Test extends Check {
    public static void main(String[] args) {
        toWhereItIs();
        oneWay();
        fewestWays();
        leastDirectionsFromTheFirstOn();
        theLongest();
        noSuchWay();
        thereIsNone();
        asThingsAreNow();
        whateverTheWidth();
        noFrom();
        noTo();
        isOnlyAsked();
        end();
    }

    private static void dueRoute(String what, DoorsLocks x, int from, int to, int... directions) {
        due(what + ", how many", x.route(from, to, HOW_MANY), directions.length);
        for (int i = 0; i < directions.length; i++) {
            due(what + ", WAY " + i, x.route(from, to, i), directions[i]);
        }
        due(what + ", behind the last", x.route(from, to, directions.length), BAD);
    }

    private static void toWhereItIs() {
        DoorsLocks x = Worlds.ofRooms(20);
        dueRoute("19 no WAY is needed", x, 0, 0);
        dueRoute("19 no WAY is needed", x, 19, 19);
        x.exit(19, 0, 19);
        dueRoute("19 nor taken", x, 19, 19);
    }

    private static void oneWay() {
        for (int direction = 0; direction < 8; direction++) {
            DoorsLocks x = Worlds.ofRooms(20);
            x.exit(19, direction, 0);
            dueRoute("19 by " + direction, x, 19, 0, direction);
            due("19 not the other way round", x.route(0, 19, HOW_MANY), BAD);
        }
    }

    private static void fewestWays() {
        DoorsLocks x = Worlds.ofRooms(5);
        for (int room = 0; room < 4; room++) {
            x.exit(room, 0, room + 1);
        }
        dueRoute("19 four", x, 0, 4, 0, 0, 0, 0);
        x.exit(1, 7, 4);
        dueRoute("19 two", x, 0, 4, 0, 7);
        x.exit(0, 7, 4);
        dueRoute("19 one", x, 0, 4, 7);
    }

    private static void leastDirectionsFromTheFirstOn() {
        DoorsLocks x = Worlds.ofRooms(8);
        x.exit(0, 6, 1);
        x.exit(0, 5, 2);
        x.exit(1, 0, 3);
        x.exit(2, 7, 3);
        dueRoute("19 the first one's is the least", x, 0, 3, 5, 7);
        x.exit(2, 6, 3);
        dueRoute("19 then the second one's", x, 0, 3, 5, 6);
        x.exit(0, 2, 2);
        dueRoute("19 of two to the same ROOM", x, 0, 3, 2, 6);
        x.exit(3, 1, 4);
        x.exit(3, 0, 5);
        x.exit(4, 0, 6);
        x.exit(5, 7, 6);
        dueRoute("19 in the midst", x, 0, 6, 2, 6, 0, 7);
        x.exit(6, 3, 7);
        x.exit(6, 4, 7);
        dueRoute("19 at the end", x, 0, 7, 2, 6, 0, 7, 3);
        dueRoute("19 from its midst", x, 3, 7, 0, 7, 3);
    }

    private static void theLongest() {
        DoorsLocks x = Worlds.ofRooms(20);
        int[] directions = new int[19];
        for (int room = 0; room < 19; room++) {
            directions[room] = (room * 3 + 1) % 8;
            x.exit(room, directions[room], room + 1);
        }
        dueRoute("19 nineteen", x, 0, 19, directions);
        x.exit(19, 7, 0);
        dueRoute("19 round", x, 19, 0, 7);
    }

    private static void noSuchWay() {
        World two = Worlds.rooms(3).then(x -> x.exit(0, 3, 1)).then(x -> x.exit(1, 4, 2));
        dueRoute("19 two", two.made(), 0, 2, 3, 4);
        badOutside("19 no such WAY", two, -1, 1, what -> x -> x.route(0, 2, what));
        badOutside("19 no WAY at all", two, -1, -1, what -> x -> x.route(0, 0, what));
    }

    private static void thereIsNone() {
        World none = Worlds.rooms(3).then(x -> {
            x.exit(0, 0, 1);
            x.exit(1, 0, 0);
            x.exit(2, 0, 0);
        });
        for (int what = -2; what < 4; what++) {
            int asked = what;
            refused("19 there is none", none, x -> x.route(0, 2, asked), BAD);
            refused("19 there is none", Worlds.rooms(2), x -> x.route(0, 1, asked), BAD);
        }
    }

    private static void asThingsAreNow() {
        for (WayKind way : WayKind.values()) {
            for (int direction : new int[] {0, 7}) {
                DoorsLocks x = Worlds.ofRooms(3);
                x.being(0);
                way.set(x, 0, 0, direction, 1);
                x.exit(1, 2, 2);
                due("19 " + way, x.route(0, 1, HOW_MANY), way.leads() ? 1 : BAD);
                due("19 " + way, x.route(0, 1, 0), way.leads() ? direction : BAD);
                due("19 " + way, x.route(0, 2, HOW_MANY), way.leads() ? 2 : BAD);
                due("19 " + way, x.route(0, 2, 1), way.leads() ? 2 : BAD);
            }
        }
        DoorsLocks x = Worlds.ofRooms(3);
        x.being(0);
        x.turn(0, 1);
        x.turn(0, 2);
        x.exit(0, 0, 300);
        x.exit(1, 0, 300);
        due("19 the turn does not come on the ROUTE", x.route(0, 2, HOW_MANY), BAD);
        x.go(0, 0);
        dueRoute("19 once it has come", x, 0, 2, 0);
        dueRoute("19 from both", x, 1, 2, 0);
    }

    private static void whateverTheWidth() {
        DoorsLocks x = Worlds.ofRooms(2);
        x.exit(0, 0, 1);
        x.width(0, 0, 1);
        dueRoute("19 the WIDTH does not count", x, 0, 1, 0);
    }

    private static void noFrom() {
        for (int what : new int[] {-1, 0}) {
            badOutside("19 no ROOM from", Worlds::small, 0, Worlds.SMALL_ROOMS - 1,
                    from -> x -> x.route(from, 0, what));
            badOutside("19 no ROOM from", Worlds::full, 0, 19, from -> x -> x.route(from, 19, what));
        }
    }

    private static void noTo() {
        for (int what : new int[] {-1, 0}) {
            badOutside("19 no ROOM to", Worlds::small, 0, Worlds.SMALL_ROOMS - 1, to -> x -> x.route(0, to, what));
            badOutside("19 no ROOM to", Worlds::full, 0, 19, to -> x -> x.route(19, to, what));
            badOutside("19 neither", Worlds::full, 0, 19, both -> x -> x.route(both, both, what));
        }
    }

    private static void isOnlyAsked() {
        for (int what = -1; what < 3; what++) {
            int asked = what;
            changesNothing("19 a question", Worlds::full, x -> x.route(0, 19, asked));
        }
    }
}
