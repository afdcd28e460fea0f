import java.util.function.IntFunction;

/** Promise 26: here. */
final class Promise26Test extends Check {
    public static void main(String[] args) {
        aDoorOfItsRoom();
        aThingOfItsRoom();
        aThingThatIsHeld();
        aThingThatFloats();
        anotherBeingAndItself();
        withinACarOrABox();
        shutInNothingButThatBox();
        shutInTogether();
        theFirstAndTheLast();
        noBeing();
        noKind();
        noNumber();
        isOnlyAsked();
        end();
    }

    private static void aDoorOfItsRoom() {
        DoorsLocks x = Worlds.ofRooms(3);
        x.door(0, 1);
        x.door(1, 0);
        x.door(0, -1);
        x.door(1, 2);
        x.being(0);
        boolean[] due = {true, true, true, false};
        for (int door = 0; door < 4; door++) {
            due("26 a SIDE of it, " + door, x.here(0, HERE_DOOR, door), due[door]);
        }
        x.act(0, OPEN_DOOR, 0);
        due("26 OPEN or not", x.here(0, HERE_DOOR, 0), true);
    }

    private static void aThingOfItsRoom() {
        DoorsLocks x = Worlds.ofRooms(2);
        x.being(0);
        for (int sort = SMALL; sort <= BOX; sort++) {
            due("26 of SORT " + sort, x.here(0, HERE_THING, x.thing(0, sort, 1)), true);
            due("26 in another ROOM", x.here(0, HERE_THING, x.thing(1, sort, 1)), false);
        }
        x.exit(0, 0, 1);
        x.go(0, 0);
        for (int thing = 0; thing < 8; thing++) {
            due("26 once it has gone", x.here(0, HERE_THING, thing), thing % 2 == 1);
        }
    }

    private static void aThingThatIsHeld() {
        DoorsLocks x = Worlds.ofRooms(2);
        x.thing(0, SMALL, 1);
        x.being(0);
        x.being(0);
        x.exit(0, 0, 1);
        x.handle(0, TAKE, 0);
        due("26 holds it", x.here(0, HERE_THING, 0), true);
        due("26 another one holds it", x.here(1, HERE_THING, 0), false);
        x.go(0, 0);
        due("26 holds it elsewhere", x.here(0, HERE_THING, 0), true);
        due("26 it is not where it lay", x.here(1, HERE_THING, 0), false);
        x.handle(0, DROP, 0);
        due("26 nor where it lay once it is dropped", x.here(1, HERE_THING, 0), false);
    }

    private static void aThingThatFloats() {
        DoorsLocks x = Worlds.ofRooms(20);
        x.thing(0, HEAVY, 1);
        x.being(0);
        x.being(19);
        x.floats(0, 0);
        due("26 its REGION has no ROOMS", x.here(0, HERE_THING, 0), false);
        x.region(0, 19, true);
        due("26 not where it was made", x.here(0, HERE_THING, 0), false);
        due("26 in the last ROOM", x.here(1, HERE_THING, 0), true);
        x.region(0, 0, true);
        due("26 in both", x.here(0, HERE_THING, 0) && x.here(1, HERE_THING, 0), true);
    }

    private static void anotherBeingAndItself() {
        DoorsLocks x = Worlds.ofRooms(2);
        for (int who = 0; who < 6; who++) {
            x.being(who % 2);
        }
        for (int who = 0; who < 6; who++) {
            for (int other = 0; other < 6; other++) {
                due("26 in the same ROOM", x.here(who, HERE_BEING, other), who % 2 == other % 2);
            }
        }
    }

    /** ROOM 0 with DOOR 0, a CAR, two BOXES, a SMALL THING that lies there and one that being 0 holds. */
    private static World world() {
        return Worlds.rooms(2).then(x -> {
            x.door(0, 1);
            for (int sort : new int[] {CAR, BOX, BOX, SMALL, SMALL}) {
                x.thing(0, sort, 1);
            }
            for (int who = 0; who < 5; who++) {
                x.being(who == 4 ? 1 : 0);
            }
            x.handle(0, TAKE, 4);
        });
    }

    private static void dueAll(String what, DoorsLocks x, int who, boolean door, String things, String beings) {
        due(what + ", the DOOR", x.here(who, HERE_DOOR, 0), door);
        for (int thing = 0; thing < 5; thing++) {
            due(what + ", THING " + thing, x.here(who, HERE_THING, thing), things.indexOf('0' + thing) >= 0);
        }
        for (int being = 0; being < 5; being++) {
            due(what + ", being " + being, x.here(who, HERE_BEING, being), beings.indexOf('0' + being) >= 0);
        }
    }

    private static void withinACarOrABox() {
        for (int thing : new int[] {0, 1}) {
            DoorsLocks x = world().made();
            x.handle(0, CLIMB, thing);
            dueAll("26 within, not SHUT", x, 0, true, "01234", "0123");
            dueAll("26 for another one", x, 1, true, "0123", "0123");
            x.handle(1, SHUT, 2);
            dueAll("26 another BOX is SHUT", x, 0, true, "01234", "0123");
        }
    }

    private static void shutInNothingButThatBox() {
        DoorsLocks x = world().made();
        x.handle(0, CLIMB, 1);
        x.handle(1, SHUT, 1);
        dueAll("26 SHUT in", x, 0, false, "14", "0");
        dueAll("26 for one outside, within whatever", x, 1, true, "0123", "0123");
        dueAll("26 for one in another ROOM", x, 4, true, "", "4");
        x.handle(0, DROP, 4);
        dueAll("26 what it dropped is outside", x, 0, false, "1", "0");
        x.handle(0, OPEN, 1);
        dueAll("26 not SHUT any more", x, 0, true, "01234", "0123");
    }

    private static void shutInTogether() {
        DoorsLocks x = world().made();
        x.handle(0, CLIMB, 1);
        x.handle(1, CLIMB, 1);
        x.handle(2, CLIMB, 2);
        x.handle(3, SHUT, 1);
        dueAll("26 SHUT in with another", x, 0, false, "14", "01");
        dueAll("26 what the other one holds is not HERE", x, 1, false, "1", "01");
        dueAll("26 from another BOX", x, 2, true, "0123", "0123");
        x.handle(3, SHUT, 2);
        dueAll("26 each in its own", x, 0, false, "14", "01");
        dueAll("26 each in its own", x, 2, false, "2", "2");
    }

    private static void theFirstAndTheLast() {
        World full = Worlds::full;
        DoorsLocks x = full.made();
        due("26 the first DOOR", x.here(0, HERE_DOOR, 0), true);
        due("26 the last THING", x.here(5, HERE_THING, 29), false);
        due("26 the last being for itself", x.here(5, HERE_BEING, 5), true);
        DoorsLocks y = Worlds.ofRooms(20);
        for (int i = 0; i < 15; i++) {
            y.door(19, -1);
        }
        for (int i = 0; i < 30; i++) {
            y.thing(19, SMALL, 1);
        }
        for (int i = 0; i < 6; i++) {
            y.being(19);
        }
        due("26 the last DOOR", y.here(5, HERE_DOOR, 14), true);
        due("26 the last THING", y.here(5, HERE_THING, 29), true);
        due("26 the last being", y.here(0, HERE_BEING, 5), true);
    }

    private static void falseOutside(String what, World world, int least, int greatest,
            IntFunction<Call> callWith) {
        for (int number : outside(least, greatest)) {
            refused(what + " " + number, world, callWith.apply(number), 0);
        }
    }

    private static Call here(int who, int kind, int number) {
        return x -> x.here(who, kind, number) ? 1 : 0;
    }

    private static void noBeing() {
        for (int kind = HERE_DOOR; kind <= HERE_BEING; kind++) {
            int asked = kind;
            falseOutside("26 no being", Worlds::small, 0, Worlds.SMALL_BEINGS - 1, who -> here(who, asked, 0));
            falseOutside("26 no being", Worlds::full, 0, 5, who -> here(who, asked, 0));
            falseOutside("26 no being, nor other", Worlds::full, 0, 5, who -> here(who, asked, who));
        }
    }

    private static void noKind() {
        for (int number : new int[] {0, 1, 3}) {
            falseOutside("26 no kind", Worlds::small, HERE_DOOR, HERE_BEING, kind -> here(0, kind, number));
            falseOutside("26 no kind, SHUT in", Worlds::small, HERE_DOOR, HERE_BEING, kind -> here(2, kind, number));
        }
    }

    private static void noNumber() {
        int[] small = {Worlds.SMALL_DOORS, Worlds.SMALL_THINGS, Worlds.SMALL_BEINGS};
        int[] full = {15, 30, 6};
        for (int kind = HERE_DOOR; kind <= HERE_BEING; kind++) {
            int asked = kind;
            falseOutside("26 none such", Worlds::small, 0, small[kind] - 1, number -> here(0, asked, number));
            falseOutside("26 none such", Worlds::full, 0, full[kind] - 1, number -> here(0, asked, number));
            falseOutside("26 none such, SHUT in", Worlds::full, 0, full[kind] - 1, number -> here(2, asked, number));
        }
    }

    private static void isOnlyAsked() {
        for (int kind = HERE_DOOR; kind <= HERE_BEING; kind++) {
            changesNothing("26 a question", Worlds::small, here(0, kind, 0));
        }
    }
}
