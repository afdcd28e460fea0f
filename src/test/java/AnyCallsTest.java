import java.util.Arrays;

/**
 * Generated runs of calls: nothing throws, refusals and questions change nothing, and the answers fit together.
 * A run is made anew for each few questions, since an object is used for at most 512 calls.
 */
final class AnyCallsTest extends Check {
    private static final int RUNS = 60, CALLS = 160, MAKING_CALLS = 70, LONG_RUNS = 3000, LONG_CALLS = 500;

    public static void main(String[] args) {
        for (int seed = 0; seed < LONG_RUNS; seed++) {
            run(seed, LONG_CALLS).made();
        }
        for (int seed = 0; seed < RUNS; seed++) {
            checkRefusals(seed);
            for (int calls = 40; calls <= CALLS; calls += 40) {
                World run = run(seed, calls);
                checkBeings(run);
                checkThings(run.made());
                checkRoutes(run);
            }
        }
        end();
    }

    private static World run(long seed, int calls) {
        return x -> wasRefused(x, seed, calls);
    }

    /** Makes a run: whether its last call is known to change nothing. */
    private static boolean wasRefused(DoorsLocks x, long seed, int calls) {
        AnyCalls any = new AnyCalls(x, seed);
        for (int i = 0; i < calls; i++) {
            int answer = i < MAKING_CALLS ? any.make() : any.any();
            if (answer < -99) {
                due("no such answer", answer, 0);
            }
        }
        return any.wasRefused();
    }

    private static void checkRefusals(long seed) {
        for (int calls = 1; calls <= CALLS; calls++) {
            if (wasRefused(new DoorsLocks(), seed, calls)) {
                same("run " + seed + ", call " + calls, run(seed, calls - 1), run(seed, calls));
            }
        }
    }

    private static void checkBeings(World run) {
        int beings = run.made().count(3);
        for (int who = 0; who < beings; who++) {
            DoorsLocks x = run.made();
            int things = x.count(2);
            int held = 0;
            for (int thing = 0; thing < things; thing++) {
                held += x.thingIs(thing, PLACE) == 100 + who ? 1 : 0;
            }
            due("as many as say so", x.beingIs(who, HELD), held);
            due("at most four", held <= 4, true);
            due("at most eight", x.beingIs(who, NEWS) <= 8, true);
            due("itself is HERE", x.here(who, HERE_BEING, who), true);
            checkWithin(x, who);
        }
    }

    private static void checkWithin(DoorsLocks x, int who) {
        int within = x.beingIs(who, WITHIN);
        if (within != NO_SUCH) {
            due("within what is in its ROOM", x.thingIs(within, PLACE), x.beingIs(who, ROOM));
            due("within a CAR or BOX", x.thingIs(within, SORT) >= CAR, true);
            due("what it is within is HERE", x.here(who, HERE_THING, within), true);
        }
    }

    private static void checkThings(DoorsLocks x) {
        int things = x.count(2);
        for (int thing = 0; thing < things; thing++) {
            int sort = x.thingIs(thing, SORT);
            due("only SMALL ones are held", x.thingIs(thing, PLACE) < 100 || sort == SMALL, true);
            due("only a BOX is SHUT", x.thingIs(thing, IS_SHUT) == 0 || sort == BOX, true);
            due("only HEAVY ones FLOAT", x.thingIs(thing, FLOATS_IN) == NO_SUCH || sort == HEAVY, true);
        }
        int doors = x.count(1);
        for (int door = 0; door < doors; door++) {
            due("no DOOR is LOCKED without KEY", (x.state(door) & 6) == 2, false);
        }
    }

    /** Against steps counted backwards from where the ROUTE ends, another way than the program's. */
    private static void checkRoutes(World run) {
        int[][] leads = leads(run.made());
        for (int to = 0; to < leads.length; to++) {
            int[] steps = stepsTo(leads, to);
            DoorsLocks x = run.made();
            for (int from = 0; from < leads.length; from++) {
                due("how many", x.route(from, to, HOW_MANY), steps[from]);
                int room = from;
                for (int i = 0; i < steps[from]; i++) {
                    int direction = leastTowards(leads[room], steps, steps[room] - 1);
                    due("the least", x.route(from, to, i), direction);
                    room = leads[room][direction];
                }
            }
        }
    }

    private static int[][] leads(DoorsLocks x) {
        int[][] leads = new int[x.count(0)][8];
        for (int room = 0; room < leads.length; room++) {
            for (int direction = 0; direction < 8; direction++) {
                leads[room][direction] = x.leads(room, direction);
            }
        }
        return leads;
    }

    private static int[] stepsTo(int[][] leads, int to) {
        int[] steps = new int[leads.length];
        Arrays.fill(steps, -1);
        steps[to] = 0;
        for (int done = 0; done < steps.length; done++) {
            for (int room = 0; room < steps.length; room++) {
                if (steps[room] == -1 && leastTowards(leads[room], steps, done) >= 0) {
                    steps[room] = done + 1;
                }
            }
        }
        return steps;
    }

    private static int leastTowards(int[] leads, int[] steps, int left) {
        for (int direction = 0; direction < 8; direction++) {
            if (leads[direction] >= 0 && steps[leads[direction]] == left) {
                return direction;
            }
        }
        return -1;
    }
}
