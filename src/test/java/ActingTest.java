/** Promises 12 to 14: acting. */
final class ActingTest {
    private static final int BAD = Check.BAD, NO_SUCH = Check.NO_SUCH;
    private static final int OPEN_DOOR = Check.OPEN_DOOR, CLOSE_DOOR = Check.CLOSE_DOOR;
    private static final int LOCK = Check.LOCK, UNLOCK = Check.UNLOCK;
    private static final int TAKE = Check.TAKE, DROP = Check.DROP, CLIMB = Check.CLIMB;
    private static final int OPEN = Check.OPEN, SHUT = Check.SHUT;

    public static void main(String[] args) {
        openAndClose();
        lockAndUnlock();
        otherKeys();
        actWrong();
        takeAndDrop();
        climb();
        openAndShut();
        shutIn();
        handleWrong();
        leave();
        Check.end();
    }

    private static void openAndClose() {
        DoorsLocks x = Check.worldOfRooms(3);
        x.door(0, 1);
        x.door(2, -1);
        x.thing(0, Check.SMALL, 1);
        x.being(0);
        x.being(1);
        x.being(2);
        Check.due("12 not OPEN already", x.act(0, CLOSE_DOOR, 0), -11);
        Check.due("12 opens", x.act(0, OPEN_DOOR, 0), 1);
        Check.due("12 opens", x.state(0), 9);
        Check.due("12 OPEN already, from the other SIDE", x.act(1, OPEN_DOOR, 0), -11);
        x.lock(0, 0, true);
        Check.due("12 OPEN already ahead of LOCKED", x.act(1, OPEN_DOOR, 0), -11);
        Check.due("12 closes, LOCKED as it is", x.act(1, CLOSE_DOOR, 0), 1);
        Check.due("12 closes", x.state(0), 14);
        Check.due("12 LOCKED", x.act(1, OPEN_DOOR, 0), -12);
        Check.due("12 LOCKED", x.state(0), 14);
        Check.due("12 not HERE", x.act(2, OPEN_DOOR, 0), -10);
        Check.due("12 not HERE ahead of 11", x.act(2, CLOSE_DOOR, 0), -10);
        Check.due("12 with one SIDE", x.act(2, OPEN_DOOR, 1), 1);
        Check.due("12 with one SIDE", x.state(1), 1);
        Check.due("12 its only SIDE", x.act(0, CLOSE_DOOR, 1), -10);
    }

    private static void lockAndUnlock() {
        DoorsLocks x = Check.worldOfRooms(2);
        x.door(0, 1);
        x.thing(0, Check.SMALL, 1);
        x.being(0);
        x.being(0);
        Check.due("12 not LOCKED already, ahead of no KEY", x.act(0, UNLOCK, 0), -11);
        Check.due("12 no KEY", x.act(0, LOCK, 0), -13);
        x.lock(0, 0, false);
        Check.due("12 the KEY is HERE, not held", x.act(0, LOCK, 0), -14);
        x.handle(1, TAKE, 0);
        Check.due("12 another one holds it", x.act(0, LOCK, 0), -14);
        Check.due("12 locks", x.act(1, LOCK, 0), 1);
        Check.due("12 locks", x.state(0), 14);
        Check.due("12 LOCKED already", x.act(0, LOCK, 0), -11);
        Check.due("12 holds none", x.act(0, UNLOCK, 0), -14);
        Check.due("12 refused", x.state(0), 14);
        Check.due("12 unlocks", x.act(1, UNLOCK, 0), 1);
        Check.due("12 unlocks", x.state(0), 12);
        x.act(0, OPEN_DOOR, 0);
        Check.due("12 locks an OPEN one", x.act(1, LOCK, 0), 1);
        Check.due("12 OPEN and LOCKED", x.state(0), 15);
    }

    private static void otherKeys() {
        DoorsLocks x = Check.worldOfRooms(2);
        x.door(0, 1);
        x.door(0, 1);
        for (int i = 0; i < 3; i++) {
            x.thing(0, Check.SMALL, 1);
        }
        x.being(0);
        x.lock(0, 0, true);
        x.lock(1, 1, true);
        x.handle(0, TAKE, 2);
        Check.due("12 what it holds is no KEY", x.act(0, UNLOCK, 0), -14);
        x.handle(0, TAKE, 1);
        Check.due("12 a KEY of another DOOR", x.act(0, UNLOCK, 0), -15);
        Check.due("12 refused", x.state(0), 14);
        x.handle(0, DROP, 1);
        x.handle(0, TAKE, 0);
        Check.due("12 a KEY of another DOOR", x.act(0, UNLOCK, 1), -15);
        x.handle(0, DROP, 0);
        x.handle(0, TAKE, 1);
        x.lock(0, -1, false);
        Check.due("12 no KEY ahead of 15", x.act(0, LOCK, 0), -13);
        x.lock(0, 0, true);
        x.handle(0, TAKE, 0);
        Check.due("12 both", x.act(0, UNLOCK, 0), 1);
        x.lock(0, 1, true);
        Check.due("12 one KEY for both", x.act(0, UNLOCK, 0), 1);
        Check.due("12 one KEY for both", x.act(0, UNLOCK, 1), 1);
        x.lock(0, 2, true);
        x.lock(1, -1, false);
        x.handle(0, DROP, 2);
        Check.due("12 what was a KEY is none now", x.act(0, UNLOCK, 0), -14);
    }

    private static void actWrong() {
        DoorsLocks x = Check.worldOfRooms(2);
        x.door(0, 1);
        x.being(0);
        for (int wild : new int[] {-1, 1, 6, Integer.MAX_VALUE, Integer.MIN_VALUE}) {
            Check.due("12 no being", x.act(wild, OPEN_DOOR, 0), BAD);
        }
        for (int wild : new int[] {-1, 4, Integer.MAX_VALUE, Integer.MIN_VALUE}) {
            Check.due("12 no kind", x.act(0, wild, 0), BAD);
        }
        for (int wild : new int[] {-1, 1, 15, Integer.MAX_VALUE, Integer.MIN_VALUE}) {
            Check.due("12 no DOOR", x.act(0, OPEN_DOOR, wild), BAD);
        }
        Check.due("12 refused", x.state(0), 8);
    }

    private static void takeAndDrop() {
        DoorsLocks x = Check.worldOfRooms(2);
        for (int i = 0; i < 6; i++) {
            x.thing(0, Check.SMALL, 1);
        }
        int heavy = x.thing(0, Check.HEAVY, 1);
        int far = x.thing(1, Check.HEAVY, 1);
        x.being(0);
        x.being(0);
        x.exit(0, 0, 1);
        Check.due("13 takes", x.handle(0, TAKE, 0), 1);
        Check.due("13 held", x.thingIs(0, 0), 100);
        Check.due("13 holds it", x.handle(0, TAKE, 0), -11);
        Check.due("13 another one holds it", x.handle(1, TAKE, 0), -10);
        Check.due("13 takes", x.handle(1, TAKE, 5), 1);
        Check.due("13 held", x.thingIs(5, 0), 101);
        Check.due("13 not HERE ahead of not SMALL", x.handle(0, TAKE, far), -10);
        Check.due("13 not SMALL", x.handle(0, TAKE, heavy), -16);
        for (int i = 1; i < 4; i++) {
            Check.due("13 takes", x.handle(0, TAKE, i), 1);
        }
        Check.due("13 not SMALL ahead of holds four", x.handle(0, TAKE, heavy), -16);
        Check.due("13 holds four", x.handle(0, TAKE, 4), -17);
        Check.due("13 refused", x.thingIs(4, 0), 0);
        Check.due("13 holds it ahead of holds four", x.handle(0, TAKE, 3), -11);
        Check.due("13 four", x.beingIs(0, 3), 4);
        Check.due("13 does not hold it", x.handle(0, DROP, 4), -18);
        Check.due("13 another one's", x.handle(0, DROP, 5), -18);
        Check.due("13 18 instead of not HERE", x.handle(0, DROP, far), -18);
        x.go(0, 0);
        Check.due("13 is carried along", x.thingIs(2, 0), 100);
        Check.due("13 drops", x.handle(0, DROP, 2), 1);
        Check.due("13 in its ROOM", x.thingIs(2, 0), 1);
        Check.due("13 three", x.beingIs(0, 3), 3);
        Check.due("13 does not hold it any more", x.handle(0, DROP, 2), -18);
        Check.due("13 takes it again", x.handle(0, TAKE, 2), 1);
    }

    private static void climb() {
        DoorsLocks x = Check.worldOfRooms(2);
        int small = x.thing(0, Check.SMALL, 1);
        int heavy = x.thing(0, Check.HEAVY, 1);
        int car = x.thing(0, Check.CAR, 1);
        int box = x.thing(0, Check.BOX, 1);
        int far = x.thing(1, Check.CAR, 1);
        x.being(0);
        x.being(0);
        x.handle(1, SHUT, box);
        Check.due("13 not HERE", x.handle(0, CLIMB, far), -10);
        Check.due("13 SMALL", x.handle(0, CLIMB, small), -19);
        Check.due("13 HEAVY", x.handle(0, CLIMB, heavy), -19);
        Check.due("13 SHUT", x.handle(0, CLIMB, box), -21);
        Check.due("13 refused", x.beingIs(0, 1), NO_SUCH);
        Check.due("13 into a CAR", x.handle(0, CLIMB, car), 1);
        Check.due("13 within", x.beingIs(0, 1), car);
        Check.due("13 19 ahead of 20", x.handle(0, CLIMB, heavy), -19);
        Check.due("13 within it", x.handle(0, CLIMB, car), -20);
        Check.due("13 20 ahead of 21", x.handle(0, CLIMB, box), -20);
        x.handle(1, OPEN, box);
        Check.due("13 into a BOX", x.handle(1, CLIMB, box), 1);
        Check.due("13 within", x.beingIs(1, 1), box);
        x.leave(0);
        Check.due("13 with another one", x.handle(0, CLIMB, box), 1);
        Check.due("13 takes from within", x.handle(0, TAKE, small), 1);
    }

    private static void openAndShut() {
        DoorsLocks x = Check.worldOfRooms(2);
        int small = x.thing(0, Check.SMALL, 1);
        int heavy = x.thing(0, Check.HEAVY, 1);
        int car = x.thing(0, Check.CAR, 1);
        int box = x.thing(0, Check.BOX, 1);
        int far = x.thing(1, Check.SMALL, 1);
        x.being(0);
        for (int thing : new int[] {small, heavy, car}) {
            Check.due("13 no BOX", x.handle(0, OPEN, thing), -22);
            Check.due("13 no BOX", x.handle(0, SHUT, thing), -22);
            Check.due("13 no BOX", x.thingIs(thing, 3), 0);
        }
        Check.due("13 not HERE ahead of no BOX", x.handle(0, OPEN, far), -10);
        Check.due("13 not HERE ahead of no BOX", x.handle(0, SHUT, far), -10);
        Check.due("13 not SHUT already", x.handle(0, OPEN, box), -11);
        Check.due("13 shuts", x.handle(0, SHUT, box), 1);
        Check.due("13 SHUT", x.thingIs(box, 3), 1);
        Check.due("13 SHUT already", x.handle(0, SHUT, box), -11);
        Check.due("13 opens", x.handle(0, OPEN, box), 1);
        Check.due("13 not SHUT", x.thingIs(box, 3), 0);
    }

    private static void shutIn() {
        DoorsLocks x = Check.worldOfRooms(2);
        x.door(0, 1);
        int box = x.thing(0, Check.BOX, 1);
        int other = x.thing(0, Check.BOX, 1);
        int held = x.thing(0, Check.SMALL, 1);
        int small = x.thing(0, Check.SMALL, 1);
        x.being(0);
        x.lock(0, held, false);
        x.handle(0, TAKE, held);
        x.handle(0, CLIMB, box);
        Check.due("12 from within a BOX", x.act(0, OPEN_DOOR, 0), 1);
        Check.due("13 shuts another one from within", x.handle(0, SHUT, other), 1);
        Check.due("13 shuts from within", x.handle(0, SHUT, box), 1);
        Check.due("12 no DOOR is HERE", x.act(0, CLOSE_DOOR, 0), -10);
        Check.due("12 no DOOR is HERE", x.act(0, LOCK, 0), -10);
        Check.due("13 the THING is not HERE", x.handle(0, TAKE, small), -10);
        Check.due("13 the other BOX is not HERE", x.handle(0, OPEN, other), -10);
        Check.due("13 that BOX is HERE", x.handle(0, TAKE, box), -16);
        Check.due("13 what it holds is HERE", x.handle(0, TAKE, held), -11);
        Check.due("13 20 ahead of 21", x.handle(0, CLIMB, box), -20);
        Check.due("13 drops", x.handle(0, DROP, held), 1);
        Check.due("13 in its ROOM", x.thingIs(held, 0), 0);
        Check.due("13 and not HERE", x.handle(0, TAKE, held), -10);
        Check.due("13 opens from within", x.handle(0, OPEN, box), 1);
        Check.due("13 HERE again", x.handle(0, TAKE, held), 1);
    }

    private static void handleWrong() {
        DoorsLocks x = Check.worldOfRooms(1);
        x.thing(0, Check.SMALL, 1);
        x.being(0);
        for (int kind = 0; kind <= 4; kind++) {
            Check.due("13 no being", x.handle(1, kind, 0), BAD);
            Check.due("13 no being", x.handle(-1, kind, 0), BAD);
            Check.due("13 no THING", x.handle(0, kind, 1), BAD);
            Check.due("13 no THING", x.handle(0, kind, -1), BAD);
        }
        for (int wild : new int[] {-1, 5, Integer.MAX_VALUE, Integer.MIN_VALUE}) {
            Check.due("13 no kind", x.handle(0, wild, 0), BAD);
        }
        Check.due("13 refused", x.thingIs(0, 0), 0);
    }

    private static void leave() {
        DoorsLocks x = Check.worldOfRooms(1);
        int car = x.thing(0, Check.CAR, 1);
        int box = x.thing(0, Check.BOX, 1);
        x.being(0);
        x.being(0);
        Check.due("14 within nothing", x.leave(0), -23);
        x.handle(0, CLIMB, car);
        x.handle(1, CLIMB, car);
        Check.due("14 out of a CAR", x.leave(0), 1);
        Check.due("14 out", x.beingIs(0, 1), NO_SUCH);
        Check.due("14 the other stays", x.beingIs(1, 1), car);
        x.handle(0, CLIMB, box);
        x.handle(1, SHUT, box);
        Check.due("14 SHUT", x.leave(0), -21);
        Check.due("14 refused", x.beingIs(0, 1), box);
        x.handle(1, OPEN, box);
        Check.due("14 out of a BOX", x.leave(0), 1);
        Check.due("14 within nothing", x.leave(0), -23);
        Check.due("14 no being", x.leave(2), BAD);
        Check.due("14 no being", x.leave(-1), BAD);
    }
}
