/** What is due where several texts could be told: the first, in the order in which they are given here. */
final class Told {
    private int text;

    private Told() {
    }

    static Told first(int text, boolean holds) {
        return new Told().then(text, holds);
    }

    Told then(int next, boolean holds) {
        text = text == 0 && holds ? next : text;
        return this;
    }

    /** Minus the text, or the answer of a call that is not refused. */
    int or(int answer) {
        return text == 0 ? answer : -text;
    }

    boolean isText() {
        return text != 0;
    }
}
