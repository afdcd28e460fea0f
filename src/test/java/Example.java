/** The example of README.md, which shows this program and what it prints. */
public final class Example {
    public static void main(String[] args) {
        DoorsLocks x = new DoorsLocks();
        int cellar = x.room();
        int hall = x.room();
        int yard = x.room();
        int gate = x.door(hall, yard);
        x.exit(hall, 2, 100 + gate);     // DIRECTION 2 of the hall goes through the gate,
        x.exit(yard, 3, 100 + gate);     // and so does DIRECTION 3 of the yard
        x.width(hall, 2, 4);
        x.exit(cellar, 6, hall);
        x.exit(hall, 7, 200 + 3);        // BLOCKED, by text 3
        int key = x.thing(hall, 0, 1);   // SMALL, of SIZE 1
        int cart = x.thing(hall, 2, 5);  // a CAR, of SIZE 5
        x.lock(gate, key, true);         // its KEY, and it is LOCKED
        int bob = x.being(hall);
        int ann = x.being(hall);

        say("Ann goes to the yard", x.go(ann, 2));
        say("Ann opens the gate", x.act(ann, 0, gate));
        say("Ann unlocks the gate", x.act(ann, 3, gate));
        say("Ann takes the key", x.handle(ann, 0, key));
        say("Ann unlocks the gate", x.act(ann, 3, gate));
        say("Ann opens the gate", x.act(ann, 0, gate));
        say("Ann goes to the yard", x.go(ann, 2));
        say("what Bob was told of it", x.news(bob, 0));
        say("Bob climbs into the cart", x.handle(bob, 2, cart));
        say("Bob follows Ann", x.follow(bob, ann));
        say("Bob goes down", x.go(bob, 7));
        say("Bob climbs out", x.leave(bob));
        say("Bob follows Ann", x.follow(bob, ann));
        say("Ann goes back", x.back(ann));
        say("where the key is", x.thingIs(key, 0));
        say("how far the yard is from the cellar", x.route(cellar, yard, -1));
        say("a way of a room that is none", x.way(3, 0));
        System.out.println("Bob sees the cart: " + x.here(bob, 1, cart));
    }

    private static void say(String what, int answer) {
        System.out.println(what + ": " + answer);
    }
}
