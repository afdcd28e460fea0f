/** Counts the answers that are not as due, and worlds that several tests start from. */
final class Check {
    static final int BAD = DoorsLocks.BAD, FULL = DoorsLocks.FULL, NO_SUCH = -3;
    static final int SMALL = 0, HEAVY = 1, CAR = 2, BOX = 3;
    static final int OPEN_DOOR = 0, CLOSE_DOOR = 1, LOCK = 2, UNLOCK = 3;
    static final int TAKE = 0, DROP = 1, CLIMB = 2, OPEN = 3, SHUT = 4;

    /** Numbers that are never in any told range but for -1 in some places. */
    static final int[] WILD = {-1, -2, -3, 30, 99, 1000, Integer.MAX_VALUE, Integer.MIN_VALUE};

    private static int wrong = 0;

    private Check() {
    }

    static void due(String what, long got, long want) {
        if (got != want) {
            wrong++;
            System.out.println(what + ": answered " + got + ", due is " + want);
        }
    }

    static void due(String what, boolean got, boolean want) {
        due(what, got ? 1 : 0, want ? 1 : 0);
    }

    static DoorsLocks worldOfRooms(int rooms) {
        DoorsLocks x = new DoorsLocks();
        for (int i = 0; i < rooms; i++) {
            due("room", x.room(), i);
        }
        return x;
    }

    static void end() {
        if (wrong != 0) {
            System.out.println(wrong + " answers are not as due");
            System.exit(1);
        }
    }
}
