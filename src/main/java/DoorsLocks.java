import java.util.Arrays;

/**
 * Rooms and the ways between them, doors, locks and keys, things and beings.
 * The words in capitals in the comments are those of the document's 'Terms'.
 */
public final class DoorsLocks {
    public static final int BAD = -1, FULL = -2;

    private static final int NONE = -1, NO_SUCH = -3;

    private static final int ROOMS = 20, DOORS = 15, THINGS = 30, BEINGS = 6, RULES = 5, REGIONS = 7;
    private static final int DIRECTIONS = 8, RULE_ROOMS = 4, HANDS = 4, NEWS_KEPT = 8;
    private static final int WIDEST = 9, LARGEST = 9, BLOCKING_TEXTS = 50;

    private static final int DOOR_WAY = 100, BLOCKED_WAY = 200, RULE_WAY = 300;
    private static final int SMALL = 0, HEAVY = 1, CAR = 2, BOX = 3;
    private static final int HOLDER = 100;

    private static final int NOT_HERE = 10, ALREADY = 11, IS_LOCKED = 12, WITHOUT_KEY = 13;
    private static final int HOLDS_NO_KEY = 14, HOLDS_OTHER_KEY = 15, NOT_SMALL = 16, HANDS_FULL = 17;
    private static final int NOT_HELD = 18, NO_CAR_NO_BOX = 19, IS_WITHIN = 20, IS_SHUT = 21, NO_BOX = 22;
    private static final int WITHIN_NOTHING = 23, WITHIN_BOX = 24, NO_WAY = 25, NOT_OPEN = 26;
    private static final int NOT_OPEN_LOCKED = 27, LEADS_NOWHERE = 28, TOO_LARGE = 29, NOT_PUSHED = 30;
    private static final int NO_ROUTE = 31, BLOCKED = 50;
    private static final int DONE = 1, NO_TEXT = 0;

    private final int[] ways = new int[ROOMS * DIRECTIONS];
    private final int[] widths = new int[ROOMS * DIRECTIONS];
    private final Rule[] rules = new Rule[RULES];
    /** Of each REGION its ROOMS, as bits. */
    private final int[] regions = new int[REGIONS];
    private final Door[] doors = new Door[DOORS];
    private final Thing[] things = new Thing[THINGS];
    private final Being[] beings = new Being[BEINGS];
    private final Search search = new Search();
    private int roomCount, doorCount, thingCount, beingCount;

    public DoorsLocks() {
        Arrays.fill(ways, NONE);
        Arrays.fill(widths, WIDEST);
        for (int i = 0; i < RULES; i++) {
            rules[i] = new Rule();
        }
    }

    // ---- making

    public int room() {
        if (roomCount >= ROOMS) {
            return FULL;
        }
        return roomCount++;
    }

    public int door(int a, int b) {
        if (!isRoom(a) || a == b || (b != NONE && !isRoom(b))) {
            return BAD;
        }
        if (doorCount >= DOORS) {
            return FULL;
        }
        doors[doorCount] = new Door(a, b);
        return doorCount++;
    }

    public int exit(int room, int direction, int way) {
        if (!isPlace(room, direction) || !mayBeWayOf(room, way)) {
            return BAD;
        }
        int was = ways[placeOf(room, direction)];
        ways[placeOf(room, direction)] = way;
        return was;
    }

    public int width(int room, int direction, int width) {
        if (!isPlace(room, direction) || width < 1 || width > WIDEST) {
            return BAD;
        }
        int was = widths[placeOf(room, direction)];
        widths[placeOf(room, direction)] = width;
        return was;
    }

    public int turn(int rule, int room) {
        Rule told = ruleAt(rule);
        if (told == null || !isRoom(room)) {
            return BAD;
        }
        return told.append(room) ? told.length : FULL;
    }

    public int region(int region, int room, boolean in) {
        if (!isRegion(region) || !isRoom(room)) {
            return BAD;
        }
        int bit = 1 << room;
        regions[region] = in ? regions[region] | bit : regions[region] & ~bit;
        return Integer.bitCount(regions[region]);
    }

    public int lock(int door, int key, boolean on) {
        Door told = doorAt(door);
        Thing fitting = thingAt(key);
        if (told == null || (key != NONE && fitting == null)) {
            return BAD;
        }
        if (fitting == null ? on : fitting.sort != SMALL) {
            return BAD;
        }
        told.key = fitting;
        told.locked = on;
        return DONE;
    }

    public int thing(int room, int sort, int size) {
        if (!isRoom(room) || sort < SMALL || sort > BOX || size < 1 || size > LARGEST) {
            return BAD;
        }
        if (thingCount >= THINGS) {
            return FULL;
        }
        things[thingCount] = new Thing(thingCount, room, sort, size);
        return thingCount++;
    }

    public int floats(int thing, int region) {
        Thing told = thingAt(thing);
        if (told == null || told.sort != HEAVY || !isRegion(region)) {
            return BAD;
        }
        told.region = region;
        return DONE;
    }

    public int being(int room) {
        if (!isRoom(room)) {
            return BAD;
        }
        if (beingCount >= BEINGS) {
            return FULL;
        }
        beings[beingCount] = new Being(beingCount, room);
        return beingCount++;
    }

    // ---- acting: 1, or minus a text

    public int act(int who, int kind, int door) {
        Being being = beingAt(who);
        Door told = doorAt(door);
        if (being == null || told == null || kind < 0 || kind > 3) {
            return BAD;
        }
        if (!isDoorHere(being, told)) {
            return -NOT_HERE;
        }
        switch (kind) {
            case 0:
                return openDoor(told);
            case 1:
                return closeDoor(told);
            default:
                return turnKey(being, told, kind == 2);
        }
    }

    public int handle(int who, int kind, int thing) {
        Being being = beingAt(who);
        Thing told = thingAt(thing);
        if (being == null || told == null || kind < 0 || kind > 4) {
            return BAD;
        }
        if (kind == 1) {
            return drop(being, told);
        }
        if (!isThingHere(being, told)) {
            return -NOT_HERE;
        }
        switch (kind) {
            case 0:
                return take(being, told);
            case 2:
                return climbInto(being, told);
            default:
                return setShut(told, kind == 4);
        }
    }

    public int leave(int who) {
        Being being = beingAt(who);
        if (being == null) {
            return BAD;
        }
        if (being.within == null) {
            return -WITHIN_NOTHING;
        }
        if (being.within.shut) {
            return -IS_SHUT;
        }
        being.within = null;
        return DONE;
    }

    // ---- going

    public int go(int who, int direction) {
        Being being = beingAt(who);
        if (being == null || !isDirection(direction)) {
            return BAD;
        }
        return goBy(being, direction);
    }

    public int push(int who, int thing, int direction) {
        Being being = beingAt(who);
        Thing told = thingAt(thing);
        if (being == null || told == null || !isDirection(direction)) {
            return BAD;
        }
        if (!isThingHere(being, told)) {
            return -NOT_HERE;
        }
        if (told.sort == SMALL || told.region != NONE) {
            return -NOT_PUSHED;
        }
        if (being.within != null) {
            return -IS_WITHIN;
        }
        return travel(being, told, direction);
    }

    public int back(int who) {
        Being being = beingAt(who);
        if (being == null) {
            return BAD;
        }
        int direction = directionBack(being);
        return direction == NONE ? 0 : goBy(being, direction);
    }

    public int follow(int who, int other) {
        Being being = beingAt(who);
        Being ahead = beingAt(other);
        if (being == null || ahead == null) {
            return BAD;
        }
        if (being.room == ahead.room) {
            return being.room;
        }
        searchFrom(being.room);
        if (search.stepsTo(ahead.room) == NONE) {
            return -NO_ROUTE;
        }
        return goBy(being, search.directionOfStep(ahead.room, 0));
    }

    // ---- what there is

    public int route(int from, int to, int what) {
        if (!isRoom(from) || !isRoom(to) || what < -1) {
            return BAD;
        }
        searchFrom(from);
        int steps = search.stepsTo(to);
        if (steps == NONE || what >= steps) {
            return BAD;
        }
        return what == -1 ? steps : search.directionOfStep(to, what);
    }

    public int way(int room, int direction) {
        return isPlace(room, direction) ? ways[placeOf(room, direction)] : BAD;
    }

    public int leads(int room, int direction) {
        int to = leadsTo(room, direction);
        return to == NONE ? BAD : to;
    }

    public int state(int door) {
        Door told = doorAt(door);
        if (told == null) {
            return BAD;
        }
        int open = told.open ? 1 : 0;
        int locked = told.locked ? 2 : 0;
        int key = told.key != null ? 4 : 0;
        int sides = told.second != NONE ? 8 : 0;
        return open + locked + key + sides;
    }

    public int thingIs(int thing, int what) {
        Thing told = thingAt(thing);
        if (told == null) {
            return BAD;
        }
        switch (what) {
            case 0:
                return placeOfThing(told);
            case 1:
                return told.sort;
            case 2:
                return told.size;
            case 3:
                return told.shut ? 1 : 0;
            case 4:
                return orNoSuch(told.region);
            default:
                return BAD;
        }
    }

    public int beingIs(int who, int what) {
        Being being = beingAt(who);
        if (being == null) {
            return BAD;
        }
        switch (what) {
            case 0:
                return being.room;
            case 1:
                return being.within == null ? NO_SUCH : being.within.number;
            case 2:
                return orNoSuch(being.came);
            case 3:
                return being.held;
            case 4:
                return being.newsKept;
            default:
                return BAD;
        }
    }

    public int news(int who, int i) {
        Being being = beingAt(who);
        if (being == null || i < 0 || i >= being.newsKept) {
            return BAD;
        }
        return being.latest[i];
    }

    public boolean here(int who, int kind, int x) {
        Being being = beingAt(who);
        if (being == null) {
            return false;
        }
        switch (kind) {
            case 0:
                return isDoorHere(being, doorAt(x));
            case 1:
                return isThingHere(being, thingAt(x));
            case 2:
                return isBeingHere(being, beingAt(x));
            default:
                return false;
        }
    }

    public int count(int what) {
        switch (what) {
            case 0:
                return roomCount;
            case 1:
                return doorCount;
            case 2:
                return thingCount;
            case 3:
                return beingCount;
            case 4:
                return countWays(false);
            case 5:
                return countWays(true);
            default:
                return BAD;
        }
    }

    // ---- numbers, and what they stand for

    private boolean isRoom(int room) {
        return room >= 0 && room < roomCount;
    }

    private static boolean isDirection(int direction) {
        return direction >= 0 && direction < DIRECTIONS;
    }

    private static boolean isRegion(int region) {
        return region >= 0 && region < REGIONS;
    }

    private boolean isPlace(int room, int direction) {
        return isRoom(room) && isDirection(direction);
    }

    private static int placeOf(int room, int direction) {
        return room * DIRECTIONS + direction;
    }

    private Rule ruleAt(int rule) {
        return rule >= 0 && rule < RULES ? rules[rule] : null;
    }

    private Door doorAt(int door) {
        return door >= 0 && door < doorCount ? doors[door] : null;
    }

    private Thing thingAt(int thing) {
        return thing >= 0 && thing < thingCount ? things[thing] : null;
    }

    private Being beingAt(int who) {
        return who >= 0 && who < beingCount ? beings[who] : null;
    }

    private static int orNoSuch(int number) {
        return number == NONE ? NO_SUCH : number;
    }

    // ---- WAYS

    private boolean mayBeWayOf(int room, int way) {
        if (way < DOOR_WAY) {
            return way == NONE || isRoom(way);
        }
        if (way < BLOCKED_WAY) {
            Door door = doorAt(way - DOOR_WAY);
            return door != null && door.hasSide(room);
        }
        if (way < RULE_WAY) {
            return way - BLOCKED_WAY < BLOCKING_TEXTS;
        }
        return ruleAt(way - RULE_WAY) != null;
    }

    private Door doorOfWay(int way) {
        return way >= DOOR_WAY && way < BLOCKED_WAY ? doorAt(way - DOOR_WAY) : null;
    }

    private Rule ruleOfWay(int way) {
        return way >= RULE_WAY ? ruleAt(way - RULE_WAY) : null;
    }

    /** The ROOM to which a WAY LEADS, or NONE. */
    private int leadsTo(int room, int direction) {
        if (!isPlace(room, direction)) {
            return NONE;
        }
        int way = ways[placeOf(room, direction)];
        if (way < DOOR_WAY) {
            return way;
        }
        Door door = doorOfWay(way);
        if (door != null) {
            return door.open ? door.sideFrom(room) : NONE;
        }
        Rule rule = ruleOfWay(way);
        return rule == null ? NONE : rule.current();
    }

    private int countWays(boolean leading) {
        int found = 0;
        for (int room = 0; room < roomCount; room++) {
            for (int direction = 0; direction < DIRECTIONS; direction++) {
                int asked = leading ? leadsTo(room, direction) : ways[placeOf(room, direction)];
                found += asked == NONE ? 0 : 1;
            }
        }
        return found;
    }

    /** Fills the search; it ends, because each ROOM is reached once. */
    private void searchFrom(int from) {
        search.begin(from);
        for (int i = 0; i < ROOMS && i < search.reached; i++) {
            int room = search.queue[i];
            for (int direction = 0; direction < DIRECTIONS; direction++) {
                search.reach(leadsTo(room, direction), room, direction);
            }
        }
    }

    // ---- HERE

    private static boolean isShutIn(Being being) {
        return being.within != null && being.within.shut;
    }

    private static boolean isDoorHere(Being being, Door door) {
        return door != null && door.hasSide(being.room) && !isShutIn(being);
    }

    private boolean isThingHere(Being being, Thing thing) {
        if (thing == null) {
            return false;
        }
        if (thing.holder != null) {
            return thing.holder == being;
        }
        return isShutIn(being) ? thing == being.within : isInRoom(thing, being.room);
    }

    private boolean isInRoom(Thing thing, int room) {
        return thing.region == NONE ? thing.room == room : hasRoom(thing.region, room);
    }

    private static boolean isBeingHere(Being being, Being other) {
        if (other == null) {
            return false;
        }
        return isShutIn(being) ? other.within == being.within : other.room == being.room;
    }

    private boolean hasRoom(int region, int room) {
        return isRegion(region) && isRoom(room) && (regions[region] & 1 << room) != 0;
    }

    private int leastRoomOf(int region) {
        for (int room = 0; room < roomCount; room++) {
            if (hasRoom(region, room)) {
                return room;
            }
        }
        return NONE;
    }

    private int placeOfThing(Thing thing) {
        if (thing.holder != null) {
            return HOLDER + thing.holder.number;
        }
        return thing.region == NONE ? thing.room : orNoSuch(leastRoomOf(thing.region));
    }

    // ---- acting on DOORS

    private static int openDoor(Door door) {
        if (door.open) {
            return -ALREADY;
        }
        if (door.locked) {
            return -IS_LOCKED;
        }
        door.open = true;
        return DONE;
    }

    private static int closeDoor(Door door) {
        if (!door.open) {
            return -ALREADY;
        }
        door.open = false;
        return DONE;
    }

    private int turnKey(Being being, Door door, boolean locking) {
        if (door.locked == locking) {
            return -ALREADY;
        }
        if (door.key == null) {
            return -WITHOUT_KEY;
        }
        if (door.key.holder != being) {
            return holdsAnyKey(being) ? -HOLDS_OTHER_KEY : -HOLDS_NO_KEY;
        }
        door.locked = locking;
        return DONE;
    }

    private boolean holdsAnyKey(Being being) {
        for (int i = 0; i < doorCount; i++) {
            Door door = doorAt(i);
            if (door != null && door.key != null && door.key.holder == being) {
                return true;
            }
        }
        return false;
    }

    // ---- acting on THINGS

    private static int take(Being being, Thing thing) {
        if (thing.holder == being) {
            return -ALREADY;
        }
        if (thing.sort != SMALL) {
            return -NOT_SMALL;
        }
        if (being.held >= HANDS) {
            return -HANDS_FULL;
        }
        thing.holder = being;
        being.held++;
        return DONE;
    }

    private static int drop(Being being, Thing thing) {
        if (thing.holder != being) {
            return -NOT_HELD;
        }
        thing.holder = null;
        thing.room = being.room;
        being.held--;
        return DONE;
    }

    private static int climbInto(Being being, Thing thing) {
        if (thing.sort != CAR && thing.sort != BOX) {
            return -NO_CAR_NO_BOX;
        }
        if (being.within != null) {
            return -IS_WITHIN;
        }
        if (thing.shut) {
            return -IS_SHUT;
        }
        being.within = thing;
        return DONE;
    }

    private static int setShut(Thing thing, boolean shut) {
        if (thing.sort != BOX) {
            return -NO_BOX;
        }
        if (thing.shut == shut) {
            return -ALREADY;
        }
        thing.shut = shut;
        return DONE;
    }

    // ---- going by a WAY

    private int goBy(Being being, int direction) {
        Thing vehicle = being.within;
        if (vehicle != null && vehicle.sort == BOX) {
            return vehicle.shut ? -IS_SHUT : -WITHIN_BOX;
        }
        return travel(being, vehicle, direction);
    }

    private int directionBack(Being being) {
        if (being.came == NONE) {
            return NONE;
        }
        for (int direction = 0; direction < DIRECTIONS; direction++) {
            if (leadsTo(being.room, direction) == being.came) {
                return direction;
            }
        }
        return NONE;
    }

    /** A being goes with its load, a THING or null, and with all that are within that. */
    private int travel(Being being, Thing load, int direction) {
        int from = being.room;
        if (!isPlace(from, direction)) {
            return BAD;
        }
        int place = placeOf(from, direction);
        int text = obstacleOf(ways[place]);
        if (text != NO_TEXT) {
            return -text;
        }
        if (load != null && load.size > widths[place]) {
            return -TOO_LARGE;
        }
        int to = leadsTo(from, direction);
        takeTurn(ways[place]);
        tellOfAll(being, load, direction, to);
        moveAll(being, load, to);
        return to;
    }

    private int obstacleOf(int way) {
        if (way == NONE) {
            return NO_WAY;
        }
        if (way >= BLOCKED_WAY && way < RULE_WAY) {
            return BLOCKED + way - BLOCKED_WAY;
        }
        Door door = doorOfWay(way);
        if (door != null) {
            return door.obstacle();
        }
        Rule rule = ruleOfWay(way);
        return rule != null && rule.length == 0 ? LEADS_NOWHERE : NO_TEXT;
    }

    private void takeTurn(int way) {
        Rule rule = ruleOfWay(way);
        if (rule != null) {
            rule.advance();
        }
    }

    private static boolean goesWith(Being other, Being being, Thing load) {
        return other == being || (other != null && load != null && other.within == load);
    }

    private void tellOfAll(Being being, Thing load, int direction, int to) {
        for (int i = 0; i < beingCount; i++) {
            if (goesWith(beingAt(i), being, load)) {
                int told = 1000 * i + 10 * direction;
                tellOthersIn(being.room, told, being, load);
                tellOthersIn(to, told + 1, being, load);
            }
        }
    }

    private void tellOthersIn(int room, int told, Being being, Thing load) {
        for (int i = 0; i < beingCount; i++) {
            Being other = beingAt(i);
            if (other != null && other.room == room && !goesWith(other, being, load)) {
                other.hear(told);
            }
        }
    }

    private void moveAll(Being being, Thing load, int to) {
        for (int i = 0; i < beingCount; i++) {
            Being other = beingAt(i);
            if (other != null && goesWith(other, being, load)) {
                other.came = other.room;
                other.room = to;
            }
        }
        if (load != null) {
            load.room = to;
        }
    }

    private static final class Door {
        final int first;
        /** NONE: the DOOR has one SIDE. */
        final int second;
        boolean open, locked;
        Thing key;

        Door(int first, int second) {
            this.first = first;
            this.second = second;
        }

        boolean hasSide(int room) {
            return room == first || room == second;
        }

        int sideFrom(int room) {
            return room == first ? second : first;
        }

        int obstacle() {
            if (!open) {
                return locked ? NOT_OPEN_LOCKED : NOT_OPEN;
            }
            return second == NONE ? LEADS_NOWHERE : NO_TEXT;
        }
    }

    private static final class Rule {
        final int[] row = new int[RULE_ROOMS];
        int length;
        private int next;

        boolean append(int room) {
            if (length >= RULE_ROOMS) {
                return false;
            }
            row[length] = room;
            length++;
            return true;
        }

        int current() {
            return next < length ? row[next] : NONE;
        }

        /** The turn wraps round at once: a ROOM appended later waits for the whole row. */
        void advance() {
            next = next + 1 < length ? next + 1 : 0;
        }
    }

    private static final class Thing {
        final int number, sort, size;
        /** Where it is, unless it is held or FLOATs. */
        int room;
        int region = NONE;
        Being holder;
        boolean shut;

        Thing(int number, int room, int sort, int size) {
            this.number = number;
            this.room = room;
            this.sort = sort;
            this.size = size;
        }
    }

    private static final class Being {
        final int number;
        final int[] latest = new int[NEWS_KEPT];
        int room, held, newsKept;
        int came = NONE;
        Thing within;

        Being(int number, int room) {
            this.number = number;
            this.room = room;
        }

        void hear(int told) {
            System.arraycopy(latest, 0, latest, 1, NEWS_KEPT - 1);
            latest[0] = told;
            newsKept = newsKept < NEWS_KEPT ? newsKept + 1 : NEWS_KEPT;
        }
    }

    /**
     * The ROUTES from one ROOM. ROOMS are reached in the order of their ROUTES' lengths, then DIRECTIONS,
     * so the first time that a ROOM is reached is by its ROUTE. The rows are made once, for all calls.
     */
    private static final class Search {
        final int[] queue = new int[ROOMS];
        private final int[] steps = new int[ROOMS];
        private final int[] before = new int[ROOMS];
        private final int[] last = new int[ROOMS];
        int reached;

        void begin(int from) {
            Arrays.fill(steps, NONE);
            reached = 0;
            if (isNumber(from)) {
                queue[0] = from;
                steps[from] = 0;
                reached = 1;
            }
        }

        void reach(int to, int from, int direction) {
            if (!isNumber(to) || !isNumber(from) || steps[to] != NONE || reached >= ROOMS) {
                return;
            }
            steps[to] = steps[from] + 1;
            before[to] = from;
            last[to] = direction;
            queue[reached] = to;
            reached++;
        }

        /** NONE: there is no ROUTE. */
        int stepsTo(int to) {
            return isNumber(to) ? steps[to] : NONE;
        }

        int directionOfStep(int to, int step) {
            int room = to;
            for (int i = stepsTo(to) - 1; i > step && isNumber(room); i--) {
                room = before[room];
            }
            return isNumber(room) ? last[room] : NONE;
        }

        private static boolean isNumber(int room) {
            return room >= 0 && room < ROOMS;
        }
    }
}
