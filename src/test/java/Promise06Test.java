/** Promise 6: turn. */
final class Promise06Test extends Check {
    public static void main(String[] args) {
        howManyItHas();
        toTheEnd();
        eachRuleItsOwn();
        noRule();
        noRoom();
        full();
        badAheadOfFull();
        theTurnStays();
        end();
    }

    private static World ofRow(int rule, int length) {
        return Worlds.rooms(4).then(x -> {
            for (int i = 0; i < length; i++) {
                x.turn(rule, i);
            }
        });
    }

    private static void howManyItHas() {
        DoorsLocks x = Worlds.ofRooms(20);
        due("6 the greatest ROOM", x.turn(4, 19), 1);
        due("6 the least ROOM", x.turn(4, 0), 2);
        due("6 a ROOM twice", x.turn(4, 0), 3);
        due("6 the fourth finds room", x.turn(4, 19), 4);
    }

    private static void toTheEnd() {
        DoorsLocks x = Worlds.ofRooms(20);
        x.being(0);
        int[] row = {19, 0, 7, 0};
        for (int i = 0; i < 4; i++) {
            x.turn(2, row[i]);
        }
        for (int room = 0; room < 20; room++) {
            x.exit(room, 0, 302);
        }
        for (int i = 0; i < 9; i++) {
            due("6 in the order of the row", x.go(0, 0), row[i % 4]);
        }
    }

    private static void eachRuleItsOwn() {
        DoorsLocks x = Worlds.ofRooms(5);
        for (int rule = 0; rule <= 4; rule++) {
            due("6 the first of RULE " + rule, x.turn(rule, rule), 1);
            x.exit(0, rule, 300 + rule);
        }
        for (int rule = 0; rule <= 4; rule++) {
            due("6 RULE " + rule + " has its own", x.leads(0, rule), rule);
            due("6 RULE " + rule + " has one", x.turn(rule, 0), 2);
        }
    }

    private static void noRule() {
        badOutside("6 no RULE", Worlds::small, 0, 4, rule -> x -> x.turn(rule, 0));
        badOutside("6 no RULE", Worlds::full, 0, 4, rule -> x -> x.turn(rule, 0));
    }

    private static void noRoom() {
        badOutside("6 no ROOM", Worlds::small, 0, Worlds.SMALL_ROOMS - 1, room -> x -> x.turn(1, room));
        badOutside("6 no ROOM", Worlds.rooms(20), 0, 19, room -> x -> x.turn(4, room));
    }

    private static void full() {
        for (int rule : new int[] {0, 4}) {
            due("6 the fourth finds room", ofRow(rule, 3).made().turn(rule, 0), 4);
            refused("6 four are there", ofRow(rule, 4), x -> x.turn(rule, 0), FULL);
            due("6 another RULE is not full", ofRow(rule, 4).made().turn(2, 0), 1);
        }
        refused("6 four are there", Worlds::full, x -> x.turn(3, 19), FULL);
    }

    private static void badAheadOfFull() {
        badOutside("6 BAD ahead of FULL", ofRow(0, 4), 0, 3, room -> x -> x.turn(0, room));
    }

    /** The last one has been gone by: the first one's turn has come before the row grows. */
    private static void theTurnStays() {
        for (int length = 1; length < 4; length++) {
            DoorsLocks x = ofRow(3, length).made();
            x.being(0);
            for (int room = 0; room < 4; room++) {
                x.exit(room, 0, 303);
            }
            for (int i = 0; i < length; i++) {
                due("6 in turn", x.go(0, 0), i);
            }
            due("6 one more", x.turn(3, 3), length + 1);
            for (int i = 0; i < length; i++) {
                due("6 from the first again", x.go(0, 0), i);
            }
            due("6 then the new one", x.go(0, 0), 3);
            due("6 then the first", x.go(0, 0), 0);
        }
    }
}
