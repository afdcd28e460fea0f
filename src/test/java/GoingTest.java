/** Promises 15 to 18: going, with the NEWS of it. */
final class GoingTest {
    private static final int BAD = Check.BAD, NO_SUCH = Check.NO_SUCH;
    private static final int CLIMB = Check.CLIMB, OPEN = Check.OPEN, SHUT = Check.SHUT;

    public static void main(String[] args) {
        go();
        goByDoor();
        goByRule();
        goWithCar();
        goFromBox();
        newsOfOne();
        newsOfMany();
        push();
        pushRefused();
        pushWithAll();
        back();
        backRefused();
        follow();
        followRefused();
        Check.end();
    }

    private static void go() {
        DoorsLocks x = Check.worldOfRooms(2);
        x.being(0);
        Check.due("15 there is no WAY", x.go(0, 0), -25);
        x.exit(0, 7, 1);
        x.exit(0, 1, 200);
        x.exit(0, 2, 249);
        Check.due("15 BLOCKED by text 0", x.go(0, 1), -50);
        Check.due("15 BLOCKED by text 49", x.go(0, 2), -99);
        Check.due("15 refused", x.beingIs(0, 0), 0);
        Check.due("15 refused", x.beingIs(0, 2), NO_SUCH);
        x.width(0, 7, 1);
        Check.due("15 goes, on foot by any WIDTH", x.go(0, 7), 1);
        Check.due("15 its ROOM", x.beingIs(0, 0), 1);
        Check.due("15 it CAME from", x.beingIs(0, 2), 0);
        Check.due("15 no WAY back by itself", x.go(0, 6), -25);
        for (int wild : new int[] {-1, 1, Integer.MAX_VALUE, Integer.MIN_VALUE}) {
            Check.due("15 no being", x.go(wild, 7), BAD);
        }
        for (int wild : new int[] {-1, 8, Integer.MAX_VALUE, Integer.MIN_VALUE}) {
            Check.due("15 no DIRECTION", x.go(0, wild), BAD);
        }
    }

    private static void goByDoor() {
        DoorsLocks x = Check.worldOfRooms(2);
        int two = x.door(1, 0);
        int one = x.door(0, -1);
        int key = x.thing(0, Check.SMALL, 1);
        x.being(0);
        x.exit(0, 0, 100 + two);
        x.exit(1, 1, 100 + two);
        x.exit(0, 2, 100 + one);
        Check.due("15 not OPEN", x.go(0, 0), -26);
        Check.due("15 not OPEN ahead of one SIDE", x.go(0, 2), -26);
        x.lock(two, key, true);
        x.lock(one, key, true);
        Check.due("15 not OPEN, but LOCKED", x.go(0, 0), -27);
        Check.due("15 LOCKED ahead of one SIDE", x.go(0, 2), -27);
        x.lock(two, key, false);
        x.lock(one, key, false);
        x.act(0, Check.OPEN_DOOR, two);
        x.act(0, Check.OPEN_DOOR, one);
        Check.due("15 one SIDE", x.go(0, 2), -28);
        x.lock(one, key, true);
        x.lock(two, key, true);
        Check.due("15 one SIDE", x.go(0, 2), -28);
        Check.due("15 OPEN, LOCKED as it is", x.go(0, 0), 1);
        Check.due("15 from the other SIDE", x.go(0, 1), 0);
    }

    private static void goByRule() {
        DoorsLocks x = Check.worldOfRooms(3);
        int car = x.thing(0, Check.CAR, 5);
        x.being(0);
        x.being(0);
        for (int room = 0; room < 3; room++) {
            x.exit(room, 0, 301);
        }
        Check.due("15 no ROOMS", x.go(0, 0), -28);
        x.turn(1, 1);
        Check.due("15 the only one", x.go(0, 0), 1);
        x.turn(1, 2);
        Check.due("15 behind the last the first, at once", x.go(0, 0), 1);
        x.turn(1, 0);
        Check.due("15 the next", x.leads(2, 0), 2);
        Check.due("15 the next", x.go(1, 0), 2);
        Check.due("15 the next", x.go(1, 0), 0);
        Check.due("15 the first again", x.leads(0, 0), 1);
        x.go(0, 0);
        x.go(0, 0);
        Check.due("15 where the CAR is", x.go(0, 0), 0);
        x.handle(0, CLIMB, car);
        x.handle(1, CLIMB, car);
        x.width(0, 0, 4);
        Check.due("15 too large", x.go(0, 0), -29);
        Check.due("15 refused: no turn", x.leads(0, 0), 1);
        x.width(0, 0, 5);
        Check.due("15 two together", x.go(0, 0), 1);
        Check.due("15 those that go together once", x.leads(0, 0), 2);
    }

    private static void goWithCar() {
        DoorsLocks x = Check.worldOfRooms(3);
        int car = x.thing(0, Check.CAR, 6);
        x.being(0);
        x.being(0);
        x.being(0);
        x.exit(0, 0, 1);
        x.exit(1, 1, 0);
        x.exit(0, 2, 2);
        x.go(1, 2);
        x.exit(2, 3, 0);
        x.go(1, 3);
        x.handle(0, CLIMB, car);
        x.handle(1, CLIMB, car);
        Check.due("15 no WAY ahead of the WIDTH", x.go(0, 7), -25);
        x.width(0, 0, 5);
        Check.due("15 the SIZE is above the WIDTH", x.go(0, 0), -29);
        Check.due("15 refused", x.thingIs(car, 0), 0);
        x.exit(0, 0, 203);
        Check.due("15 BLOCKED ahead of the WIDTH", x.go(0, 0), -53);
        x.exit(0, 0, 1);
        x.width(0, 0, 6);
        Check.due("15 with its CAR", x.go(1, 0), 1);
        Check.due("15 the CAR", x.thingIs(car, 0), 1);
        Check.due("15 all that are within", x.beingIs(0, 0), 1);
        Check.due("15 within", x.beingIs(0, 1), car);
        Check.due("15 each CAME", x.beingIs(0, 2), 0);
        Check.due("15 each CAME", x.beingIs(1, 2), 0);
        Check.due("15 the other stays", x.beingIs(2, 0), 0);
        Check.due("15 the other CAME from none", x.beingIs(2, 2), NO_SUCH);
        x.leave(0);
        Check.due("15 on foot", x.go(0, 1), 0);
        Check.due("15 the CAR stays", x.thingIs(car, 0), 1);
        Check.due("15 who is within stays", x.beingIs(1, 0), 1);
    }

    private static void goFromBox() {
        DoorsLocks x = Check.worldOfRooms(2);
        int box = x.thing(0, Check.BOX, 1);
        x.being(0);
        x.exit(0, 0, 1);
        x.handle(0, CLIMB, box);
        Check.due("15 within a BOX", x.go(0, 0), -24);
        Check.due("15 ahead of no WAY", x.go(0, 1), -24);
        x.handle(0, SHUT, box);
        Check.due("15 within a SHUT BOX", x.go(0, 0), -21);
        Check.due("15 ahead of no WAY", x.go(0, 1), -21);
        x.handle(0, OPEN, box);
        x.leave(0);
        Check.due("15 on foot", x.go(0, 0), 1);
        Check.due("15 the BOX stays", x.thingIs(box, 0), 0);
    }

    private static void newsOfOne() {
        DoorsLocks x = Check.worldOfRooms(3);
        int box = x.thing(0, Check.BOX, 1);
        x.being(0);
        x.being(1);
        x.being(2);
        x.being(0);
        x.exit(0, 5, 1);
        x.exit(1, 4, 1);
        x.handle(0, CLIMB, box);
        x.handle(0, SHUT, box);
        Check.due("NEWS goes", x.go(3, 5), 1);
        Check.due("NEWS told where it goes from, SHUT in or not", x.news(0, 0), 3050);
        Check.due("NEWS told once", x.beingIs(0, 4), 1);
        Check.due("NEWS told where it comes to", x.news(1, 0), 3051);
        Check.due("NEWS told once", x.beingIs(1, 4), 1);
        Check.due("NEWS not elsewhere", x.beingIs(2, 4), 0);
        Check.due("NEWS not of itself", x.beingIs(3, 4), 0);
        x.go(3, 0);
        Check.due("NEWS not of what is refused", x.beingIs(1, 4), 1);
        Check.due("NEWS goes to where it is", x.go(3, 4), 1);
        Check.due("NEWS both are told, this the latest", x.news(1, 0), 3041);
        Check.due("NEWS both are told", x.news(1, 1), 3040);
        Check.due("NEWS the oldest", x.news(1, 2), 3051);
        Check.due("NEWS not of itself", x.beingIs(3, 4), 0);
        Check.due("NEWS it CAME from where it is", x.beingIs(3, 2), 1);
    }

    private static void newsOfMany() {
        DoorsLocks x = Check.worldOfRooms(2);
        int car = x.thing(0, Check.CAR, 1);
        x.being(0);
        x.being(0);
        x.being(1);
        x.being(0);
        x.exit(0, 3, 1);
        x.exit(1, 2, 1);
        x.handle(3, CLIMB, car);
        x.handle(1, CLIMB, car);
        x.go(3, 3);
        Check.due("NEWS of each", x.beingIs(0, 4), 2);
        Check.due("NEWS by their numbers", x.news(0, 1), 1030);
        Check.due("NEWS by their numbers", x.news(0, 0), 3030);
        Check.due("NEWS by their numbers", x.news(2, 1), 1031);
        Check.due("NEWS by their numbers", x.news(2, 0), 3031);
        Check.due("NEWS not of those that go together", x.beingIs(1, 4), 0);
        Check.due("NEWS not of those that go together", x.beingIs(3, 4), 0);
        x.go(1, 2);
        Check.due("NEWS one by one", x.news(2, 3), 1020);
        Check.due("NEWS one by one", x.news(2, 2), 1021);
        Check.due("NEWS one by one", x.news(2, 1), 3020);
        Check.due("NEWS one by one", x.news(2, 0), 3021);
        Check.due("NEWS not of those that go together", x.beingIs(1, 4), 0);
    }

    private static void push() {
        DoorsLocks x = Check.worldOfRooms(2);
        int heavy = x.thing(0, Check.HEAVY, 5);
        int car = x.thing(0, Check.CAR, 6);
        int box = x.thing(0, Check.BOX, 7);
        x.being(0);
        x.being(1);
        x.exit(0, 4, 1);
        x.exit(1, 5, 300);
        x.turn(0, 0);
        x.turn(0, 1);
        for (int thing : new int[] {heavy, car, box}) {
            int size = x.thingIs(thing, 2);
            x.width(0, 4, size - 1);
            Check.due("16 the SIZE is above the WIDTH", x.push(0, thing, 4), -29);
            Check.due("16 refused", x.thingIs(thing, 0), 0);
            Check.due("16 refused", x.beingIs(0, 0), 0);
            x.width(0, 4, size);
            Check.due("16 pushes", x.push(0, thing, 4), 1);
            Check.due("16 it is there", x.thingIs(thing, 0), 1);
            Check.due("16 goes too", x.beingIs(0, 0), 1);
            Check.due("16 CAME", x.beingIs(0, 2), 0);
            Check.due("16 on foot", x.beingIs(0, 1), NO_SUCH);
            Check.due("16 is told", x.news(1, 0), 41);
            Check.due("16 by a RULE", x.push(0, thing, 5), 0);
            Check.due("16 the next one's turn", x.leads(1, 5), 1);
            x.go(1, 5);
            Check.due("16 what is not pushed stays", x.thingIs(thing, 0), 0);
        }
    }

    private static void pushRefused() {
        DoorsLocks x = Check.worldOfRooms(2);
        int small = x.thing(0, Check.SMALL, 1);
        int heavy = x.thing(0, Check.HEAVY, 1);
        int floating = x.thing(0, Check.HEAVY, 1);
        int car = x.thing(0, Check.CAR, 1);
        int box = x.thing(0, Check.BOX, 1);
        int far = x.thing(1, Check.SMALL, 1);
        x.being(0);
        x.exit(0, 0, 1);
        x.exit(0, 2, 207);
        x.exit(0, 3, 304);
        x.door(0, 1);
        x.exit(0, 4, 100);
        x.floats(floating, 0);
        Check.due("16 not HERE ahead of SMALL", x.push(0, far, 0), -10);
        Check.due("16 not HERE ahead of FLOATs", x.push(0, floating, 0), -10);
        x.region(0, 0, true);
        Check.due("16 FLOATs", x.push(0, floating, 0), -30);
        Check.due("16 SMALL", x.push(0, small, 0), -30);
        x.handle(0, Check.TAKE, small);
        Check.due("16 SMALL, held", x.push(0, small, 0), -30);
        Check.due("16 no WAY", x.push(0, heavy, 1), -25);
        Check.due("16 BLOCKED", x.push(0, heavy, 2), -57);
        Check.due("16 no ROOMS", x.push(0, heavy, 3), -28);
        Check.due("16 not OPEN", x.push(0, heavy, 4), -26);
        x.handle(0, CLIMB, car);
        Check.due("16 30 ahead of 20", x.push(0, small, 0), -30);
        Check.due("16 20 ahead of no WAY", x.push(0, heavy, 1), -20);
        Check.due("16 within it", x.push(0, car, 0), -20);
        x.leave(0);
        x.handle(0, CLIMB, box);
        x.handle(0, SHUT, box);
        Check.due("16 not HERE ahead of 20", x.push(0, heavy, 0), -10);
        Check.due("16 20 ahead of SHUT", x.push(0, box, 0), -20);
        Check.due("16 no being", x.push(1, heavy, 0), BAD);
        Check.due("16 no being", x.push(-1, heavy, 0), BAD);
        Check.due("16 no THING", x.push(0, 6, 0), BAD);
        Check.due("16 no THING", x.push(0, -1, 0), BAD);
        Check.due("16 no DIRECTION", x.push(0, heavy, 8), BAD);
        Check.due("16 no DIRECTION", x.push(0, heavy, -1), BAD);
    }

    private static void pushWithAll() {
        DoorsLocks x = Check.worldOfRooms(2);
        int box = x.thing(0, Check.BOX, 1);
        x.being(0);
        x.being(0);
        x.being(0);
        x.being(1);
        x.exit(0, 6, 1);
        x.handle(0, CLIMB, box);
        x.handle(0, SHUT, box);
        Check.due("16 with one within", x.push(2, box, 6), 1);
        Check.due("16 within", x.beingIs(0, 0), 1);
        Check.due("16 within", x.beingIs(0, 1), box);
        Check.due("16 each CAME", x.beingIs(0, 2), 0);
        Check.due("16 the other stays", x.beingIs(1, 0), 0);
        Check.due("16 told of the one within", x.news(1, 1), 60);
        Check.due("16 told of the one that pushes", x.news(1, 0), 2060);
        Check.due("16 told of the one within", x.news(3, 1), 61);
        Check.due("16 told of the one that pushes", x.news(3, 0), 2061);
        Check.due("16 not of those that go together", x.beingIs(0, 4), 0);
        Check.due("16 not of those that go together", x.beingIs(2, 4), 0);
    }

    private static void back() {
        DoorsLocks x = Check.worldOfRooms(3);
        x.being(1);
        x.being(2);
        Check.due("17 CAME from none", x.back(0), 0);
        Check.due("17 stays", x.beingIs(0, 0), 1);
        x.exit(1, 0, 2);
        x.go(0, 0);
        Check.due("17 no WAY", x.back(0), 0);
        x.exit(2, 7, 1);
        x.door(2, 1);
        x.exit(2, 3, 100);
        x.exit(2, 2, 0);
        x.exit(2, 4, 1);
        Check.due("17 by the least that LEADS there", x.back(0), 1);
        Check.due("17 by a WAY of 4", x.news(1, 0), 40);
        Check.due("17 CAME", x.beingIs(0, 2), 2);
        Check.due("17 and back again", x.back(0), 2);
        x.act(0, Check.OPEN_DOOR, 0);
        x.back(0);
        Check.due("17 by a DOOR that is OPEN", x.news(1, 0), 30);
        x.exit(1, 0, -1);
        x.exit(1, 5, 303);
        x.turn(3, 2);
        x.turn(3, 0);
        Check.due("17 by a RULE", x.back(0), 2);
        Check.due("17 its turn", x.leads(1, 5), 0);
    }

    private static void backRefused() {
        DoorsLocks x = Check.worldOfRooms(2);
        int car = x.thing(1, Check.CAR, 4);
        int box = x.thing(1, Check.BOX, 4);
        x.being(0);
        x.exit(0, 0, 1);
        x.go(0, 0);
        x.handle(0, CLIMB, box);
        Check.due("17 no WAY, within a BOX", x.back(0), 0);
        x.exit(1, 1, 0);
        x.exit(1, 3, 0);
        x.width(1, 1, 3);
        Check.due("17 within a BOX", x.back(0), -24);
        x.handle(0, SHUT, box);
        Check.due("17 within a SHUT BOX", x.back(0), -21);
        x.handle(0, OPEN, box);
        x.leave(0);
        x.handle(0, CLIMB, car);
        Check.due("17 too large for the least one", x.back(0), -29);
        x.width(1, 1, 4);
        Check.due("17 with its CAR", x.back(0), 0);
        Check.due("17 with its CAR", x.thingIs(car, 0), 0);
        Check.due("17 no being", x.back(1), BAD);
        Check.due("17 no being", x.back(-1), BAD);
    }

    private static void follow() {
        DoorsLocks x = Check.worldOfRooms(4);
        x.being(0);
        x.being(3);
        x.exit(0, 6, 1);
        x.exit(0, 2, 2);
        x.exit(1, 0, 3);
        x.exit(2, 5, 3);
        x.exit(3, 0, 300);
        Check.due("18 the first WAY", x.follow(0, 1), 2);
        Check.due("18 CAME", x.beingIs(0, 2), 0);
        Check.due("18 the next", x.follow(0, 1), 3);
        Check.due("18 is told", x.news(1, 0), 51);
        Check.due("18 in the same ROOM", x.follow(0, 1), 3);
        Check.due("18 nothing is done", x.beingIs(0, 2), 2);
        Check.due("18 nothing is told", x.beingIs(1, 4), 1);
        Check.due("18 itself", x.follow(1, 1), 3);
        x.turn(0, 2);
        x.turn(0, 1);
        x.go(0, 0);
        x.go(1, 0);
        Check.due("18 the RULE LEADS to 2 now, not to 1", x.follow(0, 1), -31);
        x.exit(3, 7, 1);
        Check.due("18 as things are now", x.follow(0, 1), 3);
        Check.due("18 as things are now", x.follow(0, 1), 1);
    }

    private static void followRefused() {
        DoorsLocks x = Check.worldOfRooms(2);
        int car = x.thing(0, Check.CAR, 4);
        int box = x.thing(0, Check.BOX, 4);
        x.being(0);
        x.being(1);
        Check.due("18 no ROUTE", x.follow(0, 1), -31);
        x.handle(0, CLIMB, box);
        x.handle(0, SHUT, box);
        Check.due("18 no ROUTE, SHUT in", x.follow(0, 1), -31);
        x.exit(0, 0, 1);
        Check.due("18 SHUT in", x.follow(0, 1), -21);
        x.handle(0, OPEN, box);
        Check.due("18 within a BOX", x.follow(0, 1), -24);
        x.leave(0);
        x.handle(0, CLIMB, car);
        x.width(0, 0, 3);
        Check.due("18 too large", x.follow(0, 1), -29);
        x.width(0, 0, 4);
        Check.due("18 with its CAR", x.follow(0, 1), 1);
        Check.due("18 with its CAR", x.thingIs(car, 0), 1);
        Check.due("18 no being", x.follow(2, 0), BAD);
        Check.due("18 no being", x.follow(0, 2), BAD);
        Check.due("18 no being", x.follow(-1, 0), BAD);
        Check.due("18 no being", x.follow(0, -1), BAD);
    }
}
