/** Calls with right and wrong numbers, the same ones each time for a seed, so that a failure can be looked at. */
final class AnyCalls {
    private static final int[] EXTREMES = {Integer.MIN_VALUE, Integer.MAX_VALUE, -2, -3, 31, 64, 1000};

    private final DoorsLocks x;
    private long seed;
    private int rooms, doors, things, beings;
    private boolean refused;

    AnyCalls(DoorsLocks x, long seed) {
        this.x = x;
        this.seed = seed;
        rooms = x.count(0);
        doors = x.count(1);
        things = x.count(2);
        beings = x.count(3);
    }

    /** Whether the last call is known to be one that changes nothing: a refusal, or a question. */
    boolean wasRefused() {
        return refused;
    }

    /** One call of any kind: its answer. */
    int any() {
        int answer = below(6) == 0 ? makeSome() : below(5) == 0 ? ask() : act();
        refused = refused || answer < 0;
        return answer;
    }

    /** One call of the making: its answer. */
    int make() {
        int answer = makeSome();
        refused = refused || answer < 0;
        return answer;
    }

    private int below(int bound) {
        seed = seed * 6364136223846793005L + 1442695040888963407L;
        return (int) ((seed >>> 33) % bound);
    }

    private int number(int bound) {
        if (below(60) == 0) {
            return EXTREMES[below(EXTREMES.length)];
        }
        return below(20) == 0 ? below(bound + 2) - 1 : below(Math.max(1, bound));
    }

    private int some(int count) {
        return number(Math.max(1, count));
    }

    private int someWay() {
        switch (below(7)) {
            case 0:
                return 200 + number(50);
            case 1:
                return 300 + number(5);
            case 2:
            case 3:
                return 100 + some(doors);
            default:
                return some(rooms);
        }
    }

    private int makeSome() {
        refused = false;
        switch (below(12)) {
            case 0:
                return rooms < 6 || below(9) == 0 ? room() : being();
            case 1:
                return door();
            case 2:
                return x.width(some(rooms), number(8), number(10));
            case 3:
                return x.turn(number(5), some(rooms));
            case 4:
                return x.region(number(7), some(rooms), below(3) > 0);
            case 5:
                return x.lock(some(doors), some(things), below(2) == 0);
            case 6:
            case 7:
                return thing();
            case 8:
                return x.floats(some(things), number(7));
            case 9:
                return being();
            default:
                return exit();
        }
    }

    private int room() {
        int answer = x.room();
        rooms += answer >= 0 ? 1 : 0;
        return answer;
    }

    private int door() {
        int answer = x.door(some(rooms), below(5) == 0 ? -1 : some(rooms));
        doors += answer >= 0 ? 1 : 0;
        return answer;
    }

    private int thing() {
        int answer = x.thing(some(rooms), number(4), number(9) + 1);
        things += answer >= 0 ? 1 : 0;
        return answer;
    }

    private int being() {
        int answer = x.being(some(rooms));
        beings += answer >= 0 ? 1 : 0;
        return answer;
    }

    /** 1 instead of -1, which may be what the WAY was, or BAD. */
    private int exit() {
        int answer = x.exit(some(rooms), number(8), someWay());
        return answer == -1 ? 1 : answer;
    }

    private int act() {
        refused = false;
        switch (below(11)) {
            case 0:
            case 1:
                return x.act(some(beings), number(4), some(doors));
            case 2:
            case 3:
            case 4:
                return x.handle(some(beings), number(5), some(things));
            case 5:
                return x.leave(some(beings));
            case 6:
            case 7:
                return x.go(some(beings), number(8));
            case 8:
                return x.push(some(beings), some(things), number(8));
            case 9:
                return x.back(some(beings));
            default:
                return x.follow(some(beings), some(beings));
        }
    }

    private int ask() {
        refused = true;
        switch (below(9)) {
            case 0:
                return x.route(some(rooms), some(rooms), number(5) - 1);
            case 1:
                return x.way(some(rooms), number(8));
            case 2:
                return x.leads(some(rooms), number(8));
            case 3:
                return x.state(some(doors));
            case 4:
                return x.thingIs(some(things), number(5));
            case 5:
                return x.beingIs(some(beings), number(5));
            case 6:
                return x.news(some(beings), number(8));
            case 7:
                return x.here(some(beings), number(3), some(things)) ? 1 : 0;
            default:
                return x.count(number(6));
        }
    }
}
