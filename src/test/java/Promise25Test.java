/** Promise 25: news. */
final class Promise25Test extends Check {
    public static void main(String[] args) {
        noneYet();
        theLatestFirst();
        theLatestEight();
        behindTheLast();
        theLeastAndTheGreatest();
        noBeing();
        noNews();
        isOnlyAsked();
        end();
    }

    /** Being 0 goes, one time for each DIRECTION, from ROOM 0 to ROOM 0, where being 1 is told twice of it. */
    private static World told(int times) {
        return Worlds.rooms(1).then(x -> {
            x.being(0);
            x.being(0);
            for (int i = 0; i < times; i++) {
                x.exit(0, i % 8, 0);
                x.go(0, i % 8);
            }
        });
    }

    private static void noneYet() {
        for (int i = -1; i <= 8; i++) {
            due("25 none yet", told(0).made().news(1, i), BAD);
        }
    }

    private static void theLatestFirst() {
        DoorsLocks x = told(2).made();
        due("25 the latest", x.news(1, 0), 11);
        due("25 the one before", x.news(1, 1), 10);
        due("25 the one before that", x.news(1, 2), 1);
        due("25 the first, of being 0 in DIRECTION 0", x.news(1, 3), 0);
        due("25 no more", x.news(1, 4), BAD);
    }

    private static void theLatestEight() {
        for (int times = 0; times <= 20; times++) {
            DoorsLocks x = told(times).made();
            int kept = Math.min(8, 2 * times);
            due("25 how many", x.beingIs(1, NEWS), kept);
            for (int i = 0; i < kept; i++) {
                int direction = (times - 1 - i / 2) % 8;
                due("25 NEWS " + i + " of " + times, x.news(1, i), 10 * direction + 1 - i % 2);
            }
        }
        DoorsLocks odd = Worlds.ofRooms(2);
        odd.being(0);
        odd.being(0);
        odd.exit(0, 3, 1);
        odd.exit(1, 4, 0);
        for (int i = 0; i < 9; i++) {
            odd.go(0, i % 2 == 0 ? 3 : 4);
        }
        for (int i = 0; i < 8; i++) {
            due("25 the ninth drives out the first", odd.news(1, i), i % 2 == 0 ? 30 : 41);
        }
    }

    private static void behindTheLast() {
        for (int times = 0; times <= 5; times++) {
            int kept = Math.min(8, 2 * times);
            badOutside("25 behind the last", told(times), 0, kept - 1, i -> x -> x.news(1, i));
        }
    }

    private static void theLeastAndTheGreatest() {
        DoorsLocks x = Worlds.ofRooms(2);
        for (int who = 0; who < 6; who++) {
            x.being(who == 3 ? 1 : 0);
        }
        x.exit(0, 7, 1);
        x.go(5, 7);
        due("25 of being 5 in DIRECTION 7", x.news(0, 0), 5070);
        due("25 and where it comes to", x.news(3, 0), 5071);
        x.exit(0, 0, 1);
        x.go(0, 0);
        due("25 of being 0 in DIRECTION 0", x.news(1, 0), 0);
        due("25 and where it comes to", x.news(3, 0), 1);
        due("25 one that came before", x.news(5, 0), 1);
    }

    private static void noBeing() {
        badOutside("25 no being", Worlds::small, 0, Worlds.SMALL_BEINGS - 1, who -> x -> x.news(who, 0));
        badOutside("25 no being", Worlds::full, 0, 5, who -> x -> x.news(who, 0));
    }

    private static void noNews() {
        badOutside("25 no NEWS", Worlds::full, 0, 7, i -> x -> x.news(0, i));
        badOutside("25 no NEWS, it was never told", Worlds::full, 0, -1, i -> x -> x.news(3, i));
    }

    private static void isOnlyAsked() {
        changesNothing("25 a question", Worlds::full, x -> x.news(0, 0));
        changesNothing("25 a question", Worlds::full, x -> x.news(0, 7));
    }
}
