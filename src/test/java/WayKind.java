/** The kinds of a WAY, each with the text by which one is refused there, 0 if it LEADS somewhere. */
enum WayKind {
    NONE(25), TO_ROOM(0), BLOCKED_BY_0(50), BLOCKED_BY_1(51), BLOCKED_BY_49(99),
    CLOSED(26), LOCKED(27), OPEN(0), OPEN_LOCKED(0),
    CLOSED_ONE_SIDE(26), LOCKED_ONE_SIDE(27), OPEN_ONE_SIDE(28), OPEN_LOCKED_ONE_SIDE(28),
    RULE_WITHOUT_ROOMS(28), RULE(0);

    private final int text;

    WayKind(int text) {
        this.text = text;
    }

    int text() {
        return text;
    }

    boolean leads() {
        return text == 0;
    }

    boolean ofOneSide() {
        return this == CLOSED_ONE_SIDE || this == LOCKED_ONE_SIDE || this == OPEN_ONE_SIDE
                || this == OPEN_LOCKED_ONE_SIDE;
    }

    /** The WAY of a ROOM becomes one of this kind, to another ROOM; somebody in the ROOM sees to the DOOR. */
    void set(DoorsLocks x, int somebody, int room, int direction, int to) {
        switch (this) {
            case NONE -> x.exit(room, direction, -1);
            case TO_ROOM -> x.exit(room, direction, to);
            case BLOCKED_BY_0, BLOCKED_BY_1, BLOCKED_BY_49 -> x.exit(room, direction, 200 + text - 50);
            case RULE_WITHOUT_ROOMS -> x.exit(room, direction, 300);
            case RULE -> setRule(x, room, direction, to);
            default -> setDoor(x, somebody, room, direction, to);
        }
    }

    private void setRule(DoorsLocks x, int room, int direction, int to) {
        x.turn(1, to);
        x.turn(1, room);
        x.exit(room, direction, 301);
    }

    private void setDoor(DoorsLocks x, int somebody, int room, int direction, int to) {
        int door = ofOneSide() ? x.door(room, -1) : x.door(to, room);
        int key = x.thing(to, Check.SMALL, 1);
        if (this == OPEN || this == OPEN_LOCKED || this == OPEN_ONE_SIDE || this == OPEN_LOCKED_ONE_SIDE) {
            Check.due("opens", x.act(somebody, Check.OPEN_DOOR, door), 1);
        }
        if (this == LOCKED || this == OPEN_LOCKED || this == LOCKED_ONE_SIDE || this == OPEN_LOCKED_ONE_SIDE) {
            x.lock(door, key, true);
        }
        x.exit(room, direction, 100 + door);
    }
}
