import java.util.Arrays;

/** Generated runs of calls: nothing throws, refusals change nothing, and the answers fit together. */
final class AnyCallsTest {
    private static final int RUNS = 400, CALLS = 512, MAKING_CALLS = 90;
    private static final int[] EXTREMES = {Integer.MIN_VALUE, Integer.MAX_VALUE, -2, -3, 31, 64, 1000};
    private static final int NO_REFUSAL = 0;

    private static long seed = 1;

    public static void main(String[] args) {
        for (int run = 0; run < RUNS; run++) {
            oneRun(run);
        }
        Check.end();
    }

    private static void oneRun(int run) {
        DoorsLocks x = new DoorsLocks();
        int[] before = snapshot(x);
        for (int i = 0; i < CALLS; i++) {
            int answer = i < MAKING_CALLS && below(4) > 0 ? make(x) : anyCall(x);
            int[] after = snapshot(x);
            if (answer < NO_REFUSAL && !Arrays.equals(before, after)) {
                Check.due("run " + run + ", call " + i + ": a refusal changes nothing", answer, 0);
            }
            before = after;
            checkBeings(x);
            checkThings(x);
        }
        checkRoutes(x);
    }

    /** The same runs each time, so that a failure can be looked at. */
    private static int below(int bound) {
        seed = seed * 6364136223846793005L + 1442695040888963407L;
        return (int) ((seed >>> 33) % bound);
    }

    private static int number(int bound) {
        if (below(40) == 0) {
            return EXTREMES[below(EXTREMES.length)];
        }
        return below(12) == 0 ? below(bound + 2) - 1 : below(bound);
    }

    private static int way(DoorsLocks x) {
        switch (below(6)) {
            case 0:
                return 200 + number(50);
            case 1:
                return 300 + number(5);
            case 2:
            case 3:
                return 100 + number(Math.max(1, x.count(1)));
            default:
                return number(Math.max(1, x.count(0)));
        }
    }

    private static int someRoom(DoorsLocks x) {
        return number(Math.max(1, x.count(0)));
    }

    private static int someThing(DoorsLocks x) {
        return number(Math.max(1, x.count(2)));
    }

    private static int someBeing(DoorsLocks x) {
        return number(Math.max(1, x.count(3)));
    }

    private static int someDoor(DoorsLocks x) {
        return number(Math.max(1, x.count(1)));
    }

    /** What exit() answers is not looked at: -1 may be what the WAY was, or BAD. */
    private static int make(DoorsLocks x) {
        switch (below(12)) {
            case 0:
                return x.count(0) < 6 || below(9) == 0 ? x.room() : x.being(someRoom(x));
            case 1:
                return x.door(someRoom(x), below(5) == 0 ? -1 : someRoom(x));
            case 2:
                return x.width(someRoom(x), number(8), number(10));
            case 3:
                return x.turn(number(5), someRoom(x));
            case 4:
                return x.region(number(7), someRoom(x), below(3) > 0);
            case 5:
                return x.lock(someDoor(x), someThing(x), below(2) == 0);
            case 6:
            case 7:
                return x.thing(someRoom(x), number(4), number(9) + 1);
            case 8:
                return x.floats(someThing(x), number(7));
            case 9:
                return x.being(someRoom(x));
            default:
                x.exit(someRoom(x), number(8), way(x));
                return NO_REFUSAL;
        }
    }

    private static int anyCall(DoorsLocks x) {
        switch (below(12)) {
            case 0:
                return make(x);
            case 1:
                return x.act(someBeing(x), number(4), someDoor(x));
            case 2:
            case 3:
            case 4:
                return x.handle(someBeing(x), number(5), someThing(x));
            case 5:
                return x.leave(someBeing(x));
            case 6:
            case 7:
                return x.go(someBeing(x), number(8));
            case 8:
                return x.push(someBeing(x), someThing(x), number(8));
            case 9:
                return x.back(someBeing(x));
            case 10:
                return x.follow(someBeing(x), someBeing(x));
            default:
                return ask(x);
        }
    }

    /** Answers as a refusal does: a question changes nothing. */
    private static int ask(DoorsLocks x) {
        x.route(someRoom(x), someRoom(x), number(4) - 1);
        x.way(someRoom(x), number(8));
        x.leads(someRoom(x), number(8));
        x.state(someDoor(x));
        x.thingIs(someThing(x), number(5));
        x.beingIs(someBeing(x), number(5));
        x.news(someBeing(x), number(8));
        x.here(someBeing(x), number(3), someThing(x));
        x.count(number(6));
        return -1;
    }

    private static int[] snapshot(DoorsLocks x) {
        int[] all = new int[1200];
        int at = 0;
        for (int what = 0; what <= 5; what++) {
            all[at++] = x.count(what);
        }
        for (int room = 0; room < x.count(0); room++) {
            for (int direction = 0; direction < 8; direction++) {
                all[at++] = x.way(room, direction);
                all[at++] = x.leads(room, direction);
            }
        }
        for (int door = 0; door < x.count(1); door++) {
            all[at++] = x.state(door);
        }
        for (int thing = 0; thing < x.count(2); thing++) {
            for (int what = 0; what <= 4; what++) {
                all[at++] = x.thingIs(thing, what);
            }
        }
        for (int who = 0; who < x.count(3); who++) {
            for (int what = 0; what <= 4; what++) {
                all[at++] = x.beingIs(who, what);
            }
            for (int i = 0; i < 8; i++) {
                all[at++] = x.news(who, i);
            }
        }
        return all;
    }

    private static void checkBeings(DoorsLocks x) {
        for (int who = 0; who < x.count(3); who++) {
            int held = 0;
            for (int thing = 0; thing < x.count(2); thing++) {
                held += x.thingIs(thing, 0) == 100 + who ? 1 : 0;
            }
            Check.due("24 as many as say so", x.beingIs(who, 3), held);
            Check.due("at most four", held <= 4, true);
            int within = x.beingIs(who, 1);
            if (within != Check.NO_SUCH) {
                Check.due("within a CAR or BOX of its ROOM", x.thingIs(within, 0), x.beingIs(who, 0));
                Check.due("no other THING", x.thingIs(within, 1) >= Check.CAR, true);
                Check.due("26 that it is within", x.here(who, 1, within), true);
            }
            Check.due("26 itself", x.here(who, 2, who), true);
        }
    }

    private static void checkThings(DoorsLocks x) {
        for (int thing = 0; thing < x.count(2); thing++) {
            int sort = x.thingIs(thing, 1);
            Check.due("only SMALL ones are held", x.thingIs(thing, 0) < 100 || sort == Check.SMALL, true);
            Check.due("only a BOX is SHUT", x.thingIs(thing, 3) == 0 || sort == Check.BOX, true);
            Check.due("only HEAVY ones FLOAT", x.thingIs(thing, 4) == Check.NO_SUCH || sort == Check.HEAVY, true);
        }
        for (int door = 0; door < x.count(1); door++) {
            Check.due("no DOOR is LOCKED without KEY", (x.state(door) & 6) == 2, false);
        }
    }

    /** Against steps counted backwards from where the ROUTE ends, another way than the program's. */
    private static void checkRoutes(DoorsLocks x) {
        int rooms = x.count(0);
        for (int to = 0; to < rooms; to++) {
            int[] steps = stepsTo(x, to);
            for (int from = 0; from < rooms; from++) {
                Check.due("19 how many", x.route(from, to, -1), steps[from]);
                int room = from;
                for (int i = 0; i < steps[from]; i++) {
                    int direction = leastTowards(x, room, steps);
                    Check.due("19 the least", x.route(from, to, i), direction);
                    room = x.leads(room, direction);
                }
            }
        }
    }

    private static int[] stepsTo(DoorsLocks x, int to) {
        int[] steps = new int[x.count(0)];
        Arrays.fill(steps, -1);
        steps[to] = 0;
        for (int done = 0; done < steps.length; done++) {
            for (int room = 0; room < steps.length; room++) {
                for (int direction = 0; direction < 8 && steps[room] == -1; direction++) {
                    int next = x.leads(room, direction);
                    steps[room] = next >= 0 && steps[next] == done ? done + 1 : -1;
                }
            }
        }
        return steps;
    }

    private static int leastTowards(DoorsLocks x, int room, int[] steps) {
        for (int direction = 0; direction < 8; direction++) {
            int next = x.leads(room, direction);
            if (next >= 0 && steps[next] == steps[room] - 1) {
                return direction;
            }
        }
        return -1;
    }
}
