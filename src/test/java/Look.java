import java.util.ArrayList;
import java.util.List;

/** All that can be seen of a studio, line by line; looking changes nothing. */
final class Look {
    private final CountedStudio studio;
    private final List<String> lines = new ArrayList<>();

    private Look(CountedStudio seen) {
        studio = seen;
    }

    /** What undo() and snapshots bring back, and the number of calls that can be undone. */
    static List<String> state(CountedStudio studio) {
        Look look = new Look(studio);
        studio.looking(true);
        look.numbers();
        look.things();
        for (int object = 0; object < studio.count(3); object++) look.object(object);
        look.records();
        look.ahead();
        studio.looking(false);
        return look.lines;
    }

    /** Also the output, the error and the length of the buffer. */
    static List<String> all(CountedStudio studio) {
        Look look = new Look(studio);
        look.lines.addAll(state(studio));
        studio.looking(true);
        StringBuilder output = new StringBuilder();
        for (int at = 0; at < 30; at++) output.append(studio.outputByte(at)).append(' ');
        look.line("output", output);
        look.line("error", studio.errorCode() + " at " + studio.errorPosition());
        studio.looking(false);
        look.line("buffer", bufferLength(studio));
        return look.lines;
    }

    /** What is appended is cut off again; cutting the buffer at its own length leaves it as it is. */
    static int bufferLength(CountedStudio studio) {
        studio.looking(true);
        int length = studio.appendInput(0, 0, 0, 0, 0) - 20;
        if (length < 0) length = 1000;
        while (studio.truncateInput(length) < 0 && length > 0) length--;
        studio.looking(false);
        return length;
    }

    /** Also what is behind each undo(), behind each restoreSnapshot() and behind the text in the buffer, played. */
    static List<String> further(CountedStudio studio) {
        List<String> lines = new ArrayList<>(all(studio));
        for (int undone = 0; undone <= 10; undone++) {
            lines.add("undo: " + studio.undo());
            lines.addAll(state(studio));
        }
        for (int place = 0; place <= 1; place++) {
            lines.add("restored: " + studio.restoreSnapshot(place));
            lines.addAll(all(studio));
        }
        lines.add("played: " + studio.play());
        lines.addAll(all(studio));
        return lines;
    }

    /** The first line that differs, or "the same". */
    static String difference(List<String> got, List<String> due) {
        for (int at = 0; at < Math.min(got.size(), due.size()); at++) {
            if (!got.get(at).equals(due.get(at))) return "line " + at + ": got " + got.get(at) + ", due is " + due.get(at);
        }
        return got.size() == due.size() ? "the same" : got.size() + " lines, due are " + due.size();
    }

    private void line(String name, Object value) {
        lines.add(name + ": " + value);
    }

    private void numbers() {
        for (int what = 0; what <= 12; what++) line("count " + what, studio.count(what));
        line("digest", studio.digest());
        line("next", studio.next());
        line("bills", Bounds.answer(studio, CountedStudio::allBills));
        for (int reason = 0; reason <= 6; reason++) line("objects with " + reason, studio.objectsWith(reason));
        for (int k = 0; k <= studio.count(3); k++) line("waiting loan " + k, studio.waitingLoan(k));
    }

    private void things() {
        for (int press = 0; press < studio.count(1); press++) {
            line("press " + press, studio.press(press, 0) + " " + studio.press(press, 1) + " " + studio.pressUse(press) + " "
                    + studio.dryIn(press));
        }
        for (int recipe = 0; recipe < studio.count(2); recipe++) {
            StringBuilder row = new StringBuilder();
            for (int what = 0; what <= 6; what++) row.append(studio.recipe(recipe, what)).append(' ');
            line("recipe " + recipe, row + " " + studio.uses(recipe) + " " + studio.inQueues(recipe));
        }
    }

    private void object(int object) {
        StringBuilder row = new StringBuilder();
        for (int what = 0; what <= 10; what++) row.append(studio.object(object, what)).append(' ');
        for (int place = 0; place < 8; place++) row.append(studio.queued(object, place)).append(' ');
        for (int what = 0; what <= 2; what++) row.append(studio.loan(object, what)).append(' ');
        row.append(studio.reason(object)).append(' ').append(studio.cause(object)).append(' ');
        row.append(studio.lateness(object)).append(' ').append(studio.latestRecord(object)).append(' ');
        row.append(studio.lost(object)).append(' ').append(studio.recorded(object)).append(' ');
        for (int kind = 0; kind <= 2; kind++) row.append(studio.recordsOf(object, kind)).append(' ');
        row.append(studio.scoreAhead(object)).append(' ').append(studio.hoursAhead(object)).append(' ');
        row.append(Bounds.answer(studio, s -> s.bill(object))).append(' ').append(Bounds.answer(studio, s -> s.billAhead(object)));
        line("object " + object, row);
    }

    private void records() {
        for (int index = 0; index < studio.count(8); index++) {
            StringBuilder row = new StringBuilder();
            for (int what = 0; what <= 5; what++) row.append(studio.record(index, what)).append(' ');
            line("record " + index, row);
        }
    }

    /** Forecasts tell what cannot be seen now, such as who has waited longer. */
    private void ahead() {
        for (int object = 0; object < studio.count(3); object++) {
            line("ready " + object, studio.readyAt(object, 60));
            line("score of " + object + " in 25", studio.scoreIn(object, 25));
        }
        line("lent in 40", studio.lentIn(40));
    }
}
