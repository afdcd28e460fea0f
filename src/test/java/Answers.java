import java.util.ArrayList;
import java.util.List;

/**
 * All that can be asked of a world. An object is used for at most 512 calls, so the world is made anew for each
 * few questions.
 */
final class Answers {
    private static final int AT_ONCE = 250, PLAYS = 3, PLAY_CALLS = 150;

    private enum Kind { COUNT, WAY, LEADS, WIDTH, ROUTE, STATE, THING_IS, BEING_IS, NEWS, HERE }

    private record Question(Kind kind, int a, int b, int c) {
        int ask(DoorsLocks x) {
            return switch (kind) {
                case COUNT -> x.count(a);
                case WAY -> x.way(a, b);
                case LEADS -> x.leads(a, b);
                case WIDTH -> x.width(a, b, 9);
                case ROUTE -> x.route(a, b, c);
                case STATE -> x.state(a);
                case THING_IS -> x.thingIs(a, b);
                case BEING_IS -> x.beingIs(a, b);
                case NEWS -> x.news(a, b);
                case HERE -> x.here(a, b, c) ? 1 : 0;
            };
        }
    }

    private Answers() {
    }

    /** What the two worlds answer differently, or "". */
    static String difference(World one, World other) {
        String asked = differentlyAsked(one, other);
        return asked.isEmpty() ? differentlyPlayed(one, other) : asked;
    }

    private static String differentlyAsked(World one, World other) {
        List<Question> questions = questions(one.made());
        for (int from = 0; from < questions.size(); from += AT_ONCE) {
            DoorsLocks x = one.made();
            DoorsLocks y = other.made();
            for (Question question : questions.subList(from, Math.min(from + AT_ONCE, questions.size()))) {
                int first = question.ask(x);
                int second = question.ask(y);
                if (first != second) {
                    return question + " answers " + second + ", not " + first;
                }
            }
        }
        return "";
    }

    /** What no question shows, the turns of a RULE, the KEY of a DOOR, a REGION's ROOMS, shows in what is done. */
    private static String differentlyPlayed(World one, World other) {
        for (int play = 0; play < PLAYS; play++) {
            AnyCalls calls = new AnyCalls(one.made(), play);
            AnyCalls others = new AnyCalls(other.made(), play);
            for (int i = 0; i < PLAY_CALLS; i++) {
                int first = calls.any();
                int second = others.any();
                if (first != second) {
                    return "call " + i + " of play " + play + " answers " + second + ", not " + first;
                }
            }
        }
        return "";
    }

    private static List<Question> questions(DoorsLocks x) {
        List<Question> all = new ArrayList<>();
        for (int what = 0; what <= 5; what++) {
            all.add(new Question(Kind.COUNT, what, 0, 0));
        }
        addRooms(all, x.count(0));
        addThings(all, x.count(1), x.count(2));
        addBeings(all, x);
        return all;
    }

    private static void addRooms(List<Question> all, int rooms) {
        for (int room = 0; room < rooms; room++) {
            for (int direction = 0; direction < 8; direction++) {
                all.add(new Question(Kind.WAY, room, direction, 0));
                all.add(new Question(Kind.LEADS, room, direction, 0));
                all.add(new Question(Kind.WIDTH, room, direction, 0));
            }
            for (int to = 0; to < rooms; to++) {
                for (int what = -1; what < 2; what++) {
                    all.add(new Question(Kind.ROUTE, room, to, what));
                }
            }
        }
    }

    private static void addThings(List<Question> all, int doors, int things) {
        for (int door = 0; door < doors; door++) {
            all.add(new Question(Kind.STATE, door, 0, 0));
        }
        for (int thing = 0; thing < things; thing++) {
            for (int what = 0; what <= 4; what++) {
                all.add(new Question(Kind.THING_IS, thing, what, 0));
            }
        }
    }

    private static void addBeings(List<Question> all, DoorsLocks x) {
        int[] ofKind = {x.count(1), x.count(2), x.count(3)};
        for (int who = 0; who < ofKind[2]; who++) {
            for (int what = 0; what <= 4; what++) {
                all.add(new Question(Kind.BEING_IS, who, what, 0));
            }
            for (int i = 0; i < 8; i++) {
                all.add(new Question(Kind.NEWS, who, i, 0));
            }
            for (int kind = 0; kind <= 2; kind++) {
                for (int number = 0; number < ofKind[kind]; number++) {
                    all.add(new Question(Kind.HERE, who, kind, number));
                }
            }
        }
    }
}
