/** Promise 1: a new object. */
final class Promise01Test extends Check {
    public static void main(String[] args) {
        nothingIsThere();
        noNumberIsThere();
        rulesAndRegionsAreEmpty();
        objectsShareNothing();
        end();
    }

    private static void nothingIsThere() {
        DoorsLocks x = new DoorsLocks();
        for (int what = 0; what <= 5; what++) {
            due("1 nothing is there, count " + what, x.count(what), 0);
        }
    }

    private static void noNumberIsThere() {
        for (int number : new int[] {-1, 0, 1}) {
            World none = Worlds::empty;
            refused("1 door", none, x -> x.door(number, -1), BAD);
            refused("1 exit", none, x -> x.exit(number, 0, -1), BAD);
            refused("1 width", none, x -> x.width(number, 0, 9), BAD);
            refused("1 turn", none, x -> x.turn(0, number), BAD);
            refused("1 region in", none, x -> x.region(0, number, true), BAD);
            refused("1 region out", none, x -> x.region(0, number, false), BAD);
            refused("1 lock", none, x -> x.lock(number, -1, false), BAD);
            refused("1 thing", none, x -> x.thing(number, SMALL, 1), BAD);
            refused("1 floats", none, x -> x.floats(number, 0), BAD);
            refused("1 being", none, x -> x.being(number), BAD);
            refused("1 act", none, x -> x.act(number, OPEN_DOOR, 0), BAD);
            refused("1 handle", none, x -> x.handle(number, TAKE, 0), BAD);
            refused("1 drop", none, x -> x.handle(number, DROP, 0), BAD);
            refused("1 leave", none, x -> x.leave(number), BAD);
            refused("1 go", none, x -> x.go(number, 0), BAD);
            refused("1 push", none, x -> x.push(number, 0, 0), BAD);
            refused("1 back", none, x -> x.back(number), BAD);
            refused("1 follow", none, x -> x.follow(number, number), BAD);
            refused("1 route", none, x -> x.route(number, number, HOW_MANY), BAD);
            refused("1 way", none, x -> x.way(number, 0), BAD);
            refused("1 leads", none, x -> x.leads(number, 0), BAD);
            refused("1 state", none, x -> x.state(number), BAD);
            refused("1 thingIs", none, x -> x.thingIs(number, PLACE), BAD);
            refused("1 beingIs", none, x -> x.beingIs(number, ROOM), BAD);
            refused("1 news", none, x -> x.news(number, 0), BAD);
            for (int kind = 0; kind <= 2; kind++) {
                due("1 here", new DoorsLocks().here(number, kind, 0), false);
            }
        }
    }

    private static void rulesAndRegionsAreEmpty() {
        DoorsLocks x = Worlds.ofRooms(1);
        for (int rule = 0; rule <= 4; rule++) {
            due("1 the first of RULE " + rule, x.turn(rule, 0), 1);
        }
        for (int region = 0; region <= 6; region++) {
            due("1 the first of REGION " + region, x.region(region, 0, true), 1);
        }
    }

    private static void objectsShareNothing() {
        DoorsLocks x = new DoorsLocks();
        Worlds.full(new DoorsLocks());
        for (int what = 0; what <= 5; what++) {
            due("1 another object's are not this one's, " + what, x.count(what), 0);
        }
        due("1 nor its numbers", x.room(), 0);
        due("1 nor its WAYS", x.way(0, 7), -1);
        due("1 nor its RULES", x.turn(0, 0), 1);
        due("1 nor its REGIONS", x.region(6, 0, true), 1);
    }
}
