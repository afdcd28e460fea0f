/** The sentences of 'Terms' that several promises share, and that of the 512 calls. */
final class TermsTest extends Check {
    public static void main(String[] args) {
        theLastNumberOfEach();
        noWayOfTheOppositeByItself();
        behindTheLastTheFirst();
        aRuleOfTheSameRoomTwice();
        onceForThoseThatGoTogether();
        oneTurnForAllWaysByTheRule();
        noTurnWhenRefused();
        noTurnOfAnotherRule();
        theWidthStays();
        newsWhereItGoesFromAndComesTo();
        newsOneByOneByTheirNumbers();
        newsInTheSameRoom();
        newsOfThoseThatArePushed();
        newsWithinWhatever();
        noNewsWhenRefused();
        cameFromTheRoomWhereItWas();
        fiveHundredAndTwelveCalls();
        end();
    }

    private static void theLastNumberOfEach() {
        DoorsLocks x = new DoorsLocks();
        int rooms = 0;
        int doors = 0;
        int things = 0;
        int beings = 0;
        for (int i = 0; i < 40; i++) {
            rooms = Math.max(rooms, x.room());
            doors = i < 20 ? doors : Math.max(doors, x.door(19, -1));
            things = Math.max(things, x.thing(0, SMALL, 1));
            beings = Math.max(beings, x.being(0));
        }
        due("Terms: ROOMS 0 .. 19", rooms, 19);
        due("Terms: DOORS 0 .. 14", doors, 14);
        due("Terms: THINGS 0 .. 29", things, 29);
        due("Terms: BEINGS 0 .. 5", beings, 5);
        due("Terms: RULES 0 .. 4", x.turn(4, 19) * 10 + x.turn(5, 19), 10 + BAD);
        due("Terms: REGIONS 0 .. 6", x.region(6, 19, true) * 10 + x.region(7, 19, true), 10 + BAD);
        due("Terms: DIRECTIONS 0 .. 7", x.width(19, 7, 1) * 10 + x.width(19, 8, 1), 90 + BAD);
    }

    private static void noWayOfTheOppositeByItself() {
        for (int direction = 0; direction < 8; direction++) {
            int opposite = direction % 2 == 0 ? direction + 1 : direction - 1;
            DoorsLocks x = Worlds.ofRooms(2);
            x.being(0);
            x.exit(0, direction, 1);
            x.width(0, direction, 3);
            x.go(0, direction);
            due("Terms: no WAY back", x.way(1, opposite), -1);
            due("Terms: nor on the other side", x.way(0, opposite), -1);
            due("Terms: nor its WIDTH", x.width(1, opposite, 9), 9);
            due("Terms: so it stays", x.go(0, opposite), -25);
        }
    }

    /** A RULE's row of the first so many ROOMS, by which a WAY of each ROOM goes, and a being in ROOM 0. */
    private static World ofRow(int length) {
        return Worlds.rooms(4).then(x -> {
            for (int room = 0; room < 4; room++) {
                x.exit(room, 0, 304);
            }
            for (int i = 0; i < length; i++) {
                x.turn(4, i);
            }
            x.being(0);
        });
    }

    private static void behindTheLastTheFirst() {
        for (int length = 1; length <= 4; length++) {
            DoorsLocks x = ofRow(length).made();
            for (int i = 0; i < 3 * length + 1; i++) {
                due("Terms: whose turn it is", x.leads(3, 0), i % length);
                due("Terms: in turn, a row of " + length, x.go(0, 0), i % length);
            }
        }
        refused("Terms: a row of none", ofRow(0), x -> x.go(0, 0), -28);
    }

    private static void aRuleOfTheSameRoomTwice() {
        DoorsLocks x = ofRow(0).made();
        int[] row = {2, 2, 1, 2};
        for (int room : row) {
            x.turn(4, room);
        }
        for (int i = 0; i < 9; i++) {
            due("Terms: the same ROOM has two turns", x.go(0, 0), row[i % 4]);
        }
    }

    private static void onceForThoseThatGoTogether() {
        DoorsLocks x = ofRow(3).made();
        x.thing(0, CAR, 1);
        for (int who = 1; who < 6; who++) {
            x.being(0);
            x.handle(who, CLIMB, 0);
        }
        due("Terms: five go together", x.go(3, 0), 0);
        due("Terms: one turn", x.leads(0, 0), 1);
        due("Terms: six go together", x.push(0, 0, 0), 1);
        due("Terms: one turn", x.leads(0, 0), 2);
        due("Terms: back, where it is another one's turn", x.back(0), 0);
        due("Terms: no turn", x.leads(0, 0), 2);
    }

    private static void oneTurnForAllWaysByTheRule() {
        DoorsLocks x = ofRow(3).made();
        x.being(2);
        x.exit(2, 7, 304);
        due("Terms: the first", x.go(1, 7), 0);
        due("Terms: the second, from another ROOM", x.go(0, 0), 1);
        due("Terms: the third", x.go(1, 0), 2);
        due("Terms: followed by the first", x.follow(0, 1), -31);
        due("Terms: and round", x.go(0, 0), 0);
        x.exit(0, 5, 304);
        due("Terms: told for another WAY, the turn stays", x.go(0, 5), 1);
        x.exit(1, 0, -1);
        x.exit(1, 0, 304);
        due("Terms: told anew, the turn stays", x.go(0, 0), 2);
    }

    private static void noTurnWhenRefused() {
        World world = ofRow(3).then(x -> {
            x.thing(0, CAR, 9);
            x.thing(0, BOX, 9);
            x.width(0, 0, 8);
            x.being(0);
            x.being(0);
            x.handle(1, CLIMB, 0);
            x.handle(2, CLIMB, 1);
        });
        refused("Terms: too large", world, x -> x.go(1, 0), -29);
        refused("Terms: too large to be pushed", world, x -> x.push(0, 1, 0), -29);
        refused("Terms: within a BOX", world, x -> x.go(2, 0), -24);
        refused("Terms: within something", world, x -> x.push(1, 1, 0), -20);
        refused("Terms: asked", world, x -> x.leads(0, 0), 0);
        refused("Terms: asked", world, x -> x.route(0, 1, HOW_MANY), BAD);
    }

    private static void noTurnOfAnotherRule() {
        DoorsLocks x = ofRow(4).made();
        for (int rule = 0; rule < 4; rule++) {
            x.turn(rule, 3);
            x.turn(rule, 0);
            x.exit(0, rule + 1, 300 + rule);
        }
        x.go(0, 0);
        for (int rule = 0; rule < 4; rule++) {
            due("Terms: another one's turn stays", x.leads(0, rule + 1), 3);
        }
        x.go(0, 1);
        due("Terms: that one's turn", x.leads(0, 1), 0);
        due("Terms: only that one's", x.leads(0, 0), 1);
        due("Terms: only that one's", x.leads(0, 2), 3);
    }

    private static void theWidthStays() {
        DoorsLocks x = Worlds.ofRooms(2);
        x.thing(0, CAR, 5);
        x.being(0);
        x.handle(0, CLIMB, 0);
        x.width(0, 0, 4);
        x.exit(0, 0, 1);
        due("Terms: told before the WAY was there", x.go(0, 0), -29);
        x.exit(0, 0, -1);
        x.exit(0, 0, 0);
        due("Terms: it stays when the WAY is told anew", x.go(0, 0), -29);
        x.width(0, 0, 5);
        due("Terms: as wide as the CAR", x.go(0, 0), 0);
    }

    private static void dueNews(String what, DoorsLocks x, int who, int... latestLast) {
        due(what + ", how many of " + who, x.beingIs(who, NEWS), latestLast.length);
        for (int i = 0; i < latestLast.length; i++) {
            due(what + ", NEWS " + i + " of " + who, x.news(who, latestLast.length - 1 - i), latestLast[i]);
        }
    }

    private static void newsWhereItGoesFromAndComesTo() {
        for (int goer = 0; goer < 6; goer++) {
            for (int direction : new int[] {0, 4, 7}) {
                DoorsLocks x = Worlds.ofRooms(3);
                for (int who = 0; who < 6; who++) {
                    x.being(who == goer ? 0 : who % 3);
                }
                x.exit(0, direction, 1);
                x.go(goer, direction);
                int told = 1000 * goer + 10 * direction;
                for (int who = 0; who < 6; who++) {
                    if (who == goer || who % 3 == 2) {
                        dueNews("Terms: not told", x, who);
                    } else {
                        dueNews("Terms: told", x, who, told + who % 3);
                    }
                }
            }
        }
    }

    /** Beings 1, 3 and 4 go together, 0 and 5 are where they go from and come to, 2 is in neither. */
    private static World ofThreeTogether() {
        return Worlds.rooms(3).then(x -> {
            x.thing(0, CAR, 1);
            for (int room : new int[] {0, 0, 2, 0, 0, 1}) {
                x.being(room);
            }
            x.exit(0, 3, 1);
            x.exit(1, 2, 1);
            for (int who : new int[] {4, 1, 3}) {
                x.handle(who, CLIMB, 0);
            }
        });
    }

    private static void newsOneByOneByTheirNumbers() {
        for (int driver : new int[] {1, 3, 4}) {
            DoorsLocks x = ofThreeTogether().made();
            due("Terms: they go", x.go(driver, 3), 1);
            dueNews("Terms: where they go from", x, 0, 1030, 3030, 4030);
            dueNews("Terms: where they come to", x, 5, 1031, 3031, 4031);
            for (int who : new int[] {1, 2, 3, 4}) {
                dueNews("Terms: not those that go together, nor elsewhere", x, who);
            }
            due("Terms: they go to where they are", x.go(driver, 2), 1);
            dueNews("Terms: one by one, eight of nine", x, 5, 3031, 4031, 1020, 1021, 3020, 3021, 4020, 4021);
        }
    }

    private static void newsInTheSameRoom() {
        DoorsLocks x = Worlds.ofRooms(1);
        x.being(0);
        x.being(0);
        x.exit(0, 6, 0);
        x.go(1, 6);
        dueNews("Terms: first that it goes, then that it comes", x, 0, 1060, 1061);
        dueNews("Terms: not itself", x, 1);
    }

    private static void newsOfThoseThatArePushed() {
        DoorsLocks x = ofThreeTogether().made();
        due("Terms: 0 pushes them", x.push(0, 0, 3), 1);
        dueNews("Terms: of each, by their numbers", x, 5, 31, 1031, 3031, 4031);
        for (int who = 0; who < 5; who++) {
            dueNews("Terms: not those that go together", x, who);
        }
    }

    private static void newsWithinWhatever() {
        DoorsLocks x = Worlds.ofRooms(2);
        x.thing(0, CAR, 1);
        x.thing(0, BOX, 1);
        x.thing(1, BOX, 1);
        for (int room : new int[] {0, 0, 1, 0}) {
            x.being(room);
        }
        x.exit(0, 1, 1);
        x.handle(0, CLIMB, 0);
        x.handle(1, CLIMB, 1);
        x.handle(1, SHUT, 1);
        x.handle(2, CLIMB, 2);
        x.handle(2, SHUT, 2);
        x.go(3, 1);
        dueNews("Terms: one in a CAR is in the ROOM", x, 0, 3010);
        dueNews("Terms: one SHUT in is in the ROOM", x, 1, 3010);
        dueNews("Terms: one SHUT in is in the ROOM", x, 2, 3011);
    }

    private static void noNewsWhenRefused() {
        World world = ofThreeTogether().then(x -> x.width(0, 3, 1)).then(x -> x.exit(0, 0, 249));
        refused("Terms: BLOCKED", world, x -> x.go(1, 0), -99);
        refused("Terms: no WAY", world, x -> x.go(0, 5), -25);
        refused("Terms: no WAY to push by", world, x -> x.push(0, 0, 5), -25);
        refused("Terms: CAME from none", world, x -> x.back(0), 0);
        refused("Terms: no ROUTE", world, x -> x.follow(0, 2), -31);
        refused("Terms: in the same ROOM", world, x -> x.follow(0, 1), 0);
    }

    private static void cameFromTheRoomWhereItWas() {
        DoorsLocks x = ofThreeTogether().made();
        for (int who = 0; who < 6; who++) {
            due("Terms: none at first", x.beingIs(who, CAME), NO_SUCH);
        }
        x.go(1, 3);
        for (int who = 0; who < 6; who++) {
            boolean gone = who == 1 || who == 3 || who == 4;
            due("Terms: each that goes", x.beingIs(who, CAME), gone ? 0 : NO_SUCH);
        }
        x.go(3, 2);
        due("Terms: where it was the last time", x.beingIs(4, CAME), 1);
    }

    /** The last of the calls for which an object is used answers as the first ones do. */
    private static void fiveHundredAndTwelveCalls() {
        DoorsLocks x = ofRow(4).made();
        int made = 13;
        for (int i = made; i < 511; i++) {
            due("Terms: call " + i, x.go(0, 0), (i - made) % 4);
        }
        due("Terms: the last call", x.beingIs(0, ROOM), (510 - made) % 4);
    }
}
