import java.util.List;

/** What the tests of the bounds share: studios to begin from, and calls that are refused. */
final class Bounds {
    static final int MIN = Integer.MIN_VALUE;
    static final int MAX = Integer.MAX_VALUE;
    static final int NONE = -1;
    static final int FULL = -2;
    static final int TEXT_ERROR = -3;
    static final int REFUSED = -4;
    static final Class<?> NO_SUCH = IndexOutOfBoundsException.class;
    static final Class<?> BAD = IllegalArgumentException.class;
    static final Class<?> TOO_GREAT = ArithmeticException.class;

    interface Maker {
        CountedStudio make();
    }

    interface Call {
        Object of(CountedStudio studio);
    }

    interface Numbered {
        Object of(CountedStudio studio, int number);
    }

    private Bounds() {
    }

    static void same(String what, Object got, Object due) {
        Check.same(Sentences.here() + " " + what, got, due);
    }

    /** What a call answers, or the class of the exception that it throws. */
    static Object answer(CountedStudio studio, Call call) {
        try {
            return call.of(studio);
        } catch (RuntimeException e) {
            return Check.thrown(e);
        }
    }

    static CountedStudio loaded(String text) {
        return Check.loaded(text);
    }

    // ---- studios to begin from ----

    /** An object in each state, all kinds of records, ten calls to undo, both snapshots, an output, an error and a script in the buffer. */
    static CountedStudio busy() {
        CountedStudio s = loaded("benches 2;life 30;press 30;recipe 1 9 1 0 10 0 5;recipe 20 0 0 1 0 0 3;recipe 1 1 0 3 5 5 100000000;"
                + "object 10 500 0;object 10 400 0;object 10 300 0;object 10 200 1;object 10 100 1;");
        s.lend(3, 0, 0, 1);
        s.plan(0, 0);
        s.saveSnapshot(0);
        s.tick(2);
        for (int object = 0; object <= 1; object++) s.plan(object, 0);
        s.tick(9);
        s.plan(2, 1);
        s.lend(3, 2, 0, 50);
        s.tick(2);
        s.plan(1, 0);
        s.plan(4, 2);
        s.saveSnapshot(1);
        s.approve(4);
        s.plan(4, 1);
        s.lend(4, 300, 0, 5);
        s.lend(1, 290, 7, 5);
        s.write(4);
        Check.input(s, "tick 0;");
        s.play();
        Check.input(s, "tick 3;plan 0 1;tick 2;");
        return s;
    }

    /** The same with nine calls to undo, so that one more does not push out another. */
    static CountedStudio rested() {
        CountedStudio s = busy();
        s.undo();
        return s;
    }

    /** As many presses, recipes and objects as there can be. */
    static CountedStudio full() {
        return loaded("press 100;".repeat(6) + "recipe 1 1 0 0 1 1 1;".repeat(10) + "object 1 500 0;".repeat(16));
    }

    static CountedStudio at(int time, CountedStudio studio) {
        while (studio.count(4) < time) studio.tick(Math.min(1000, time - studio.count(4)));
        return studio;
    }

    static CountedStudio at(int time, String text) {
        return at(time, loaded(text));
    }

    // ---- calls that are refused ----

    /** The answer is as due, and the studio is as one of which the call was not asked, in all that can be seen now and later. */
    static void refused(String what, Maker maker, Object due, Call call) {
        CountedStudio called = maker.make();
        same(what, answer(called, call), due);
        same(what + ", then", Look.difference(Look.further(called), Look.further(maker.make())), "the same");
    }

    /** A text that load() refuses, and where. */
    static void textRefused(String text, int code, int position) {
        refusedText(text, code, position, CountedStudio::load);
    }

    /** A script that play() refuses, and where. */
    static void scriptRefused(String text, int code, int position) {
        refusedText(text, code, position, CountedStudio::play);
    }

    private static void refusedText(String text, int code, int position, Call reader) {
        CountedStudio s = busy();
        List<String> before = Look.state(s);
        Check.input(s, text);
        same(text, answer(s, reader), TEXT_ERROR);
        same(text + ": code", s.errorCode(), code);
        same(text + ": position", s.errorPosition(), position);
        same(text + ": buffer", Look.bufferLength(s), 0);
        same(text + ": output", s.outputByte(0), (int) '2');
        same(text + ": all else", Look.difference(Look.state(s), before), "the same");
    }

    /** A text that load() takes, with the number of objects. */
    static CountedStudio textTaken(String text, int objects) {
        CountedStudio s = new CountedStudio();
        Check.input(s, text);
        same(text, s.load(), objects);
        same(text + ": code", s.errorCode(), 0);
        same(text + ": position", s.errorPosition(), NONE);
        return s;
    }

    /** A question: the answer is as due, and asking changes nothing. */
    static void asked(String what, Maker maker, Object due, Call call) {
        refused(what, maker, due, call);
    }

    // ---- numbers of things, and ranges ----

    static void objectNumbers(Numbered call) {
        numbers(5, 16, call);
    }

    static void recipeNumbers(Numbered call) {
        numbers(3, 10, call);
    }

    static void pressNumbers(Numbered call) {
        numbers(1, 6, call);
    }

    /** Numbers go from 0 to the last thing: in a new studio there is none, in a full one there are the most. */
    private static void numbers(int few, int most, Numbered call) {
        for (int bad : new int[] {-1, few, MIN, MAX}) refused("number " + bad, Bounds::busy, NO_SUCH, s -> call.of(s, bad));
        for (int bad : new int[] {-1, most}) refused("number " + bad + " of a full one", Bounds::full, NO_SUCH, s -> call.of(s, bad));
        refused("number 0 of a new one", CountedStudio::new, NO_SUCH, s -> call.of(s, 0));
        for (int good : new int[] {0, few - 1}) allowed("number " + good, busy(), good, call);
        for (int good : new int[] {0, most - 1}) allowed("number " + good + " of a full one", full(), good, call);
    }

    static void allowed(String what, CountedStudio studio, int good, Numbered call) {
        Object got = answer(studio, s -> call.of(s, good));
        same(what + " is allowed", got instanceof Number || got instanceof Boolean, true);
    }

    /** A range of an argument: what is outside throws and changes nothing. */
    static void range(int least, int greatest, Numbered call) {
        for (int good : new int[] {least, greatest}) allowed("" + good, busy(), good, call);
        outside(least, greatest, BAD, call);
    }

    static void outside(int least, int greatest, Object due, Numbered call) {
        for (int bad : new int[] {least - 1, greatest + 1, MIN, MAX}) refused("" + bad, Bounds::busy, due, s -> call.of(s, bad));
    }

    /** The properties from 0 on; NONE below and behind them. */
    static void properties(CountedStudio studio, Numbered call, int... due) {
        for (int what = 0; what < due.length; what++) same("what " + what, call.of(studio, what), due[what]);
        for (int what : new int[] {-1, due.length, MIN, MAX}) same("what " + what, call.of(studio, what), NONE);
    }
}
