import java.util.function.IntFunction;

/** Counts the answers that are not as due. The tests extend it, to use its names as their own. */
abstract class Check {
    static final int BAD = DoorsLocks.BAD, FULL = DoorsLocks.FULL, NO_SUCH = -3;
    static final int LEAST = Integer.MIN_VALUE, GREATEST = Integer.MAX_VALUE;
    static final int SMALL = 0, HEAVY = 1, CAR = 2, BOX = 3;
    static final int OPEN_DOOR = 0, CLOSE_DOOR = 1, LOCK = 2, UNLOCK = 3;
    static final int TAKE = 0, DROP = 1, CLIMB = 2, OPEN = 3, SHUT = 4;
    static final int PLACE = 0, SORT = 1, SIZE = 2, IS_SHUT = 3, FLOATS_IN = 4;
    static final int ROOM = 0, WITHIN = 1, CAME = 2, HELD = 3, NEWS = 4;
    static final int HERE_DOOR = 0, HERE_THING = 1, HERE_BEING = 2;
    static final int HOW_MANY = -1;
    static final boolean[] NO_AND_YES = {false, true};

    private static int wrong = 0;

    static void due(String what, long got, long want) {
        if (got != want) {
            say(what + ": answered " + got + ", due is " + want);
        }
    }

    static void due(String what, boolean got, boolean want) {
        due(what, got ? 1 : 0, want ? 1 : 0);
    }

    /** The call is refused with that answer, and whatever is called after it answers as it would without it. */
    static void refused(String what, World world, Call call, int want) {
        due(what, call.on(world.made()), want);
        changesNothing(what, world, call);
    }

    static void changesNothing(String what, World world, Call call) {
        same(what + ": changes nothing", world, world.then(call::on));
    }

    /** Both worlds answer alike, whatever is called. */
    static void same(String what, World world, World other) {
        String difference = Answers.difference(world, other);
        if (!difference.isEmpty()) {
            say(what + ", but: " + difference);
        }
    }

    /** A number below the least or above the greatest is BAD. */
    static void badOutside(String what, World world, int least, int greatest, IntFunction<Call> callWith) {
        for (int number : outside(least, greatest)) {
            refused(what + " " + number, world, callWith.apply(number), BAD);
        }
    }

    /** The numbers next to the bounds, and some that wrap around in a shift, a byte or a difference. */
    static int[] outside(int least, int greatest) {
        return new int[] {least - 1, least - 2, least - 32, least - 256, greatest + 1, greatest + 2, greatest + 32,
            greatest + 256, LEAST, LEAST + 1, GREATEST, GREATEST - 1};
    }

    static void end() {
        if (wrong != 0) {
            System.out.println(wrong + " answers are not as due");
            System.exit(1);
        }
    }

    private static void say(String text) {
        wrong++;
        System.out.println(text);
    }
}
