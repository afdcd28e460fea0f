/** Promises 19 to 27: what there is. */
final class AskingTest {
    private static final int BAD = Check.BAD, NO_SUCH = Check.NO_SUCH;
    private static final int CLIMB = Check.CLIMB, OPEN = Check.OPEN, SHUT = Check.SHUT, TAKE = Check.TAKE;

    public static void main(String[] args) {
        route();
        routeOfLeastDirections();
        longestRoute();
        routeAsThingsAre();
        way();
        leads();
        state();
        thingIs();
        beingIs();
        news();
        hereDoorsAndThings();
        hereBeings();
        hereWrong();
        count();
        Check.end();
    }

    private static void dueRoute(DoorsLocks x, int from, int to, int... directions) {
        Check.due("19 length " + from + " to " + to, x.route(from, to, -1), directions.length);
        for (int i = 0; i < directions.length; i++) {
            Check.due("19 WAY " + i + ", " + from + " to " + to, x.route(from, to, i), directions[i]);
        }
        Check.due("19 no such WAY", x.route(from, to, directions.length), BAD);
    }

    private static void route() {
        DoorsLocks x = Check.worldOfRooms(4);
        x.exit(0, 3, 1);
        x.exit(1, 4, 2);
        x.exit(1, 0, 1);
        dueRoute(x, 0, 2, 3, 4);
        dueRoute(x, 0, 0);
        dueRoute(x, 1, 1);
        Check.due("19 there is none", x.route(2, 0, -1), BAD);
        Check.due("19 there is none", x.route(0, 3, -1), BAD);
        Check.due("19 there is none", x.route(0, 3, 0), BAD);
        Check.due("19 no ROOM", x.route(4, 0, -1), BAD);
        Check.due("19 no ROOM", x.route(-1, 0, -1), BAD);
        Check.due("19 no ROOM", x.route(0, 4, -1), BAD);
        Check.due("19 no ROOM", x.route(0, -1, -1), BAD);
        Check.due("19 no what", x.route(0, 2, -2), BAD);
        Check.due("19 no what", x.route(0, 2, Integer.MIN_VALUE), BAD);
        Check.due("19 no what", x.route(0, 2, Integer.MAX_VALUE), BAD);
    }

    private static void routeOfLeastDirections() {
        DoorsLocks x = Check.worldOfRooms(7);
        x.exit(0, 1, 4);
        x.exit(0, 5, 2);
        x.exit(0, 6, 1);
        x.exit(1, 0, 3);
        x.exit(2, 7, 3);
        x.exit(2, 6, 3);
        x.exit(4, 0, 5);
        x.exit(5, 0, 3);
        dueRoute(x, 0, 3, 5, 6);
        x.exit(0, 7, 3);
        dueRoute(x, 0, 3, 7);
        x.exit(0, 4, 3);
        dueRoute(x, 0, 3, 4);
        x.exit(3, 7, 6);
        x.exit(3, 2, 6);
        dueRoute(x, 0, 6, 4, 2);
    }

    private static void longestRoute() {
        DoorsLocks x = Check.worldOfRooms(20);
        int[] directions = new int[19];
        for (int room = 0; room < 19; room++) {
            x.exit(room, room % 8, room + 1);
            x.exit(room + 1, (room + 2) % 8, 0);
            directions[room] = room % 8;
        }
        dueRoute(x, 0, 19, directions);
        dueRoute(x, 19, 0, 4);
    }

    private static void routeAsThingsAre() {
        DoorsLocks x = Check.worldOfRooms(4);
        x.door(0, 1);
        x.exit(0, 0, 100);
        x.exit(1, 1, 100);
        x.exit(0, 7, 2);
        x.exit(2, 7, 1);
        x.width(0, 7, 1);
        x.being(0);
        dueRoute(x, 0, 1, 7, 7);
        x.act(0, Check.OPEN_DOOR, 0);
        dueRoute(x, 0, 1, 0);
        x.act(0, Check.CLOSE_DOOR, 0);
        x.exit(0, 7, 300);
        x.exit(2, 7, 200);
        Check.due("19 BLOCKED, no ROOMS", x.route(0, 1, -1), BAD);
        x.turn(0, 2);
        x.turn(0, 1);
        x.exit(2, 6, 300);
        Check.due("19 the RULE LEADS to 2 all along", x.route(0, 1, -1), BAD);
        x.go(0, 7);
        dueRoute(x, 0, 1, 7);
    }

    private static void way() {
        DoorsLocks x = Check.worldOfRooms(2);
        x.exit(1, 7, 249);
        Check.due("20 as told", x.way(1, 7), 249);
        Check.due("20 none", x.way(1, 6), -1);
        Check.due("20 no ROOM", x.way(2, 0), BAD);
        Check.due("20 no ROOM", x.way(-1, 7), BAD);
        Check.due("20 no DIRECTION", x.way(1, -1), BAD);
        x.exit(1, 0, 0);
        Check.due("20 no DIRECTION", x.way(0, 8), BAD);
        Check.due("20 no DIRECTION", x.way(0, Integer.MAX_VALUE), BAD);
        Check.due("20 no ROOM", x.way(Integer.MIN_VALUE, 0), BAD);
        x.exit(0, 0, 302);
        x.turn(2, 1);
        Check.due("20 as told, not where it LEADS", x.way(0, 0), 302);
    }

    private static void leads() {
        DoorsLocks x = Check.worldOfRooms(3);
        x.door(0, 1);
        x.door(0, -1);
        x.being(0);
        x.thing(0, Check.SMALL, 1);
        Check.due("21 no WAY", x.leads(0, 0), BAD);
        x.exit(0, 0, 2);
        Check.due("21 that told", x.leads(0, 0), 2);
        x.exit(0, 1, 100);
        x.exit(1, 1, 100);
        x.exit(0, 2, 101);
        x.exit(0, 3, 200);
        x.exit(0, 4, 300);
        for (int direction = 1; direction < 5; direction++) {
            Check.due("21 nowhere", x.leads(0, direction), BAD);
        }
        x.act(0, Check.OPEN_DOOR, 0);
        x.act(0, Check.OPEN_DOOR, 1);
        Check.due("21 the other SIDE", x.leads(0, 1), 1);
        Check.due("21 the other SIDE", x.leads(1, 1), 0);
        x.lock(0, 0, true);
        Check.due("21 OPEN, LOCKED as it is", x.leads(0, 1), 1);
        Check.due("21 it has one SIDE", x.leads(0, 2), BAD);
        x.turn(0, 1);
        Check.due("21 whose turn it is", x.leads(0, 4), 1);
        Check.due("21 no ROOM", x.leads(3, 0), BAD);
        Check.due("21 no ROOM", x.leads(-1, 0), BAD);
        Check.due("21 no DIRECTION", x.leads(0, 8), BAD);
        Check.due("21 no DIRECTION", x.leads(1, -4), BAD);
    }

    private static void state() {
        DoorsLocks x = Check.worldOfRooms(2);
        x.door(0, -1);
        x.door(0, 1);
        x.thing(0, Check.SMALL, 1);
        x.being(0);
        Check.due("22 nothing", x.state(0), 0);
        x.act(0, Check.OPEN_DOOR, 0);
        Check.due("22 OPEN", x.state(0), 1);
        x.lock(0, 0, false);
        Check.due("22 with a KEY", x.state(0), 5);
        x.lock(0, 0, true);
        Check.due("22 LOCKED", x.state(0), 7);
        Check.due("22 two SIDES", x.state(1), 8);
        Check.due("22 no DOOR", x.state(2), BAD);
        Check.due("22 no DOOR", x.state(-1), BAD);
        Check.due("22 no DOOR", x.state(15), BAD);
    }

    private static void thingIs() {
        DoorsLocks x = Check.worldOfRooms(3);
        int box = x.thing(2, Check.BOX, 9);
        int small = x.thing(2, Check.SMALL, 3);
        int heavy = x.thing(2, Check.HEAVY, 4);
        x.being(0);
        x.being(2);
        x.handle(1, TAKE, small);
        x.handle(1, SHUT, box);
        Check.due("23 its ROOM", x.thingIs(box, 0), 2);
        Check.due("23 who holds it", x.thingIs(small, 0), 101);
        Check.due("23 its SORT", x.thingIs(box, 1), Check.BOX);
        Check.due("23 its SIZE", x.thingIs(heavy, 2), 4);
        Check.due("23 SHUT", x.thingIs(box, 3), 1);
        Check.due("23 FLOATs not", x.thingIs(heavy, 4), NO_SUCH);
        x.floats(heavy, 0);
        Check.due("23 FLOATs", x.thingIs(heavy, 4), 0);
        Check.due("23 the REGION has no ROOM", x.thingIs(heavy, 0), NO_SUCH);
        x.region(0, 0, true);
        x.region(0, 1, true);
        Check.due("23 the least", x.thingIs(heavy, 0), 0);
        Check.due("23 no THING", x.thingIs(3, 0), BAD);
        Check.due("23 no THING", x.thingIs(-1, 1), BAD);
        Check.due("23 no what", x.thingIs(0, 5), BAD);
        Check.due("23 no what", x.thingIs(0, -1), BAD);
    }

    private static void beingIs() {
        DoorsLocks x = Check.worldOfRooms(2);
        x.thing(1, Check.SMALL, 1);
        x.thing(1, Check.CAR, 1);
        x.being(0);
        x.being(0);
        x.exit(0, 0, 1);
        x.go(1, 0);
        x.handle(1, TAKE, 0);
        x.handle(1, CLIMB, 1);
        Check.due("24 its ROOM", x.beingIs(1, 0), 1);
        Check.due("24 within", x.beingIs(1, 1), 1);
        Check.due("24 within nothing", x.beingIs(0, 1), NO_SUCH);
        Check.due("24 CAME", x.beingIs(1, 2), 0);
        Check.due("24 CAME from none", x.beingIs(0, 2), NO_SUCH);
        Check.due("24 holds", x.beingIs(1, 3), 1);
        Check.due("24 NEWS", x.beingIs(0, 4), 1);
        Check.due("24 no NEWS", x.beingIs(1, 4), 0);
        Check.due("24 no being", x.beingIs(2, 0), BAD);
        Check.due("24 no being", x.beingIs(-1, 1), BAD);
        Check.due("24 no what", x.beingIs(0, 5), BAD);
        Check.due("24 no what", x.beingIs(0, -1), BAD);
    }

    private static void news() {
        DoorsLocks x = Check.worldOfRooms(1);
        x.being(0);
        x.being(0);
        Check.due("25 none", x.news(1, 0), BAD);
        for (int direction = 0; direction < 8; direction++) {
            x.exit(0, direction, 0);
        }
        for (int direction = 0; direction < 5; direction++) {
            x.go(0, direction);
            int kept = direction < 4 ? 2 * direction + 2 : 8;
            Check.due("25 how many", x.beingIs(1, 4), kept);
            Check.due("25 the latest", x.news(1, 0), 10 * direction + 1);
            Check.due("25 no more", x.news(1, kept), BAD);
        }
        for (int i = 0; i < 8; i++) {
            Check.due("25 the latest eight", x.news(1, i), (4 - i / 2) * 10 + 1 - i % 2);
        }
        Check.due("25 no NEWS", x.news(1, 8), BAD);
        Check.due("25 no NEWS", x.news(1, -1), BAD);
        Check.due("25 no being", x.news(2, 0), BAD);
        Check.due("25 no being", x.news(-1, 0), BAD);
    }

    private static void hereDoorsAndThings() {
        DoorsLocks x = Check.worldOfRooms(3);
        x.door(1, 0);
        x.door(2, -1);
        int box = x.thing(0, Check.BOX, 1);
        int small = x.thing(0, Check.SMALL, 1);
        int floating = x.thing(2, Check.HEAVY, 1);
        int far = x.thing(2, Check.SMALL, 1);
        x.being(0);
        x.being(0);
        x.floats(floating, 1);
        x.region(1, 0, true);
        Check.due("26 a DOOR's second SIDE", x.here(0, 0, 0), true);
        Check.due("26 another DOOR", x.here(0, 0, 1), false);
        Check.due("26 in its ROOM", x.here(0, 1, small), true);
        Check.due("26 in another ROOM", x.here(0, 1, far), false);
        Check.due("26 FLOATs there", x.here(0, 1, floating), true);
        x.handle(1, TAKE, small);
        Check.due("26 another one holds it", x.here(0, 1, small), false);
        Check.due("26 holds it", x.here(1, 1, small), true);
        x.handle(1, CLIMB, box);
        Check.due("26 within a BOX", x.here(1, 0, 0), true);
        Check.due("26 within a BOX", x.here(1, 1, floating), true);
        x.handle(0, SHUT, box);
        Check.due("26 SHUT in: no DOOR", x.here(1, 0, 0), false);
        Check.due("26 SHUT in: no THING", x.here(1, 1, floating), false);
        Check.due("26 SHUT in: that BOX", x.here(1, 1, box), true);
        Check.due("26 SHUT in: what it holds", x.here(1, 1, small), true);
        Check.due("26 from outside", x.here(0, 1, box), true);
    }

    private static void hereBeings() {
        DoorsLocks x = Check.worldOfRooms(2);
        int box = x.thing(0, Check.BOX, 1);
        int other = x.thing(0, Check.BOX, 1);
        for (int i = 0; i < 4; i++) {
            x.being(0);
        }
        x.being(1);
        Check.due("26 itself", x.here(0, 2, 0), true);
        Check.due("26 another one", x.here(0, 2, 1), true);
        Check.due("26 in another ROOM", x.here(0, 2, 4), false);
        x.handle(0, CLIMB, box);
        x.handle(1, CLIMB, box);
        x.handle(2, CLIMB, other);
        x.handle(3, SHUT, box);
        x.handle(3, SHUT, other);
        Check.due("26 SHUT in: itself", x.here(0, 2, 0), true);
        Check.due("26 SHUT in: with it", x.here(0, 2, 1), true);
        Check.due("26 SHUT in: in another BOX", x.here(0, 2, 2), false);
        Check.due("26 SHUT in: outside", x.here(0, 2, 3), false);
        Check.due("26 within whatever", x.here(3, 2, 0), true);
        x.handle(3, OPEN, other);
        Check.due("26 from a BOX into another, SHUT", x.here(2, 2, 0), true);
    }

    private static void hereWrong() {
        DoorsLocks x = Check.worldOfRooms(2);
        x.door(0, 1);
        x.thing(0, Check.BOX, 1);
        x.being(0);
        for (int kind = 0; kind <= 2; kind++) {
            Check.due("26 no being", x.here(1, kind, 0), false);
            Check.due("26 no being", x.here(-1, kind, 0), false);
            Check.due("26 HERE", x.here(0, kind, 0), true);
            for (int wild : Check.WILD) {
                Check.due("26 none", x.here(0, kind, wild), false);
            }
        }
        for (int wild : new int[] {-1, 3, Integer.MAX_VALUE, Integer.MIN_VALUE}) {
            Check.due("26 no kind", x.here(0, wild, 0), false);
        }
    }

    private static void count() {
        DoorsLocks x = Check.worldOfRooms(4);
        x.door(0, 1);
        x.door(0, -1);
        x.door(0, 1);
        x.thing(0, Check.HEAVY, 1);
        x.thing(0, Check.HEAVY, 1);
        x.being(0);
        Check.due("27 ROOMS", x.count(0), 4);
        Check.due("27 DOORS", x.count(1), 3);
        Check.due("27 THINGS", x.count(2), 2);
        Check.due("27 beings", x.count(3), 1);
        x.exit(3, 7, 0);
        x.exit(0, 0, 100);
        x.exit(0, 1, 101);
        x.exit(0, 2, 200);
        x.exit(0, 3, 300);
        Check.due("27 WAYS", x.count(4), 5);
        Check.due("27 that LEAD somewhere", x.count(5), 1);
        x.act(0, Check.OPEN_DOOR, 0);
        x.act(0, Check.OPEN_DOOR, 1);
        Check.due("27 an OPEN DOOR", x.count(5), 2);
        x.turn(0, 1);
        Check.due("27 a RULE", x.count(5), 3);
        x.exit(3, 7, -1);
        Check.due("27 WAYS", x.count(4), 4);
        Check.due("27 that LEAD somewhere", x.count(5), 2);
        for (int wild : new int[] {-1, 6, Integer.MAX_VALUE, Integer.MIN_VALUE}) {
            Check.due("27 no what", x.count(wild), BAD);
        }
    }
}
