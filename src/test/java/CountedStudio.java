import java.util.ArrayList;
import java.util.List;

/**
 * A studio with the face of RepairStudio that keeps to the document's first lines: no object is asked more than
 * 512 calls, as later answers are free. Calls are kept; when an object has had its 512, a new one gets the calls
 * that are kept and goes on in its place. What is asked while a test looks around is not kept, so looks may be long.
 */
final class CountedStudio {
    static final int MOST_CALLS = 512;

    private final List<Call> kept = new ArrayList<>();
    private RepairStudio studio = new RepairStudio();
    private int calls;
    private boolean looking;

    private interface Call {
        Object of(RepairStudio studio);
    }

    /** While a test looks around, what it asks has to change nothing, or to be put back by the next calls. */
    void looking(boolean now) {
        looking = now;
    }

    /** How many calls are kept. */
    int keptCalls() {
        return kept.size();
    }

    private Object ask(Call call) {
        if (calls == MOST_CALLS) renew();
        if (!looking) kept.add(call);
        calls++;
        return call.of(studio);
    }

    private void renew() {
        if (kept.size() >= MOST_CALLS) throw new IllegalStateException("a test asks more than " + MOST_CALLS + " calls of one object");
        studio = new RepairStudio();
        calls = 0;
        for (Call call : kept) {
            calls++;
            try {
                call.of(studio);
            } catch (RuntimeException e) {
                // it threw when it was asked first, too, and changes nothing
            }
        }
    }

    // ---- the face ----

    public int appendInput(int w0, int w1, int w2, int w3, int w4) {
        return (int) ask(s -> s.appendInput(w0, w1, w2, w3, w4));
    }

    public int truncateInput(int length) {
        return (int) ask(s -> s.truncateInput(length));
    }

    public int load() {
        return (int) ask(s -> s.load());
    }

    public int errorCode() {
        return (int) ask(s -> s.errorCode());
    }

    public int errorPosition() {
        return (int) ask(s -> s.errorPosition());
    }

    public int count(int what) {
        return (int) ask(s -> s.count(what));
    }

    public int press(int press, int what) {
        return (int) ask(s -> s.press(press, what));
    }

    public int recipe(int recipe, int what) {
        return (int) ask(s -> s.recipe(recipe, what));
    }

    public int object(int object, int what) {
        return (int) ask(s -> s.object(object, what));
    }

    public int queued(int object, int place) {
        return (int) ask(s -> s.queued(object, place));
    }

    public int loan(int object, int what) {
        return (int) ask(s -> s.loan(object, what));
    }

    public int plan(int object, int recipe) {
        return (int) ask(s -> s.plan(object, recipe));
    }

    public int cancel(int object) {
        return (int) ask(s -> s.cancel(object));
    }

    public int clearQueue(int object) {
        return (int) ask(s -> s.clearQueue(object));
    }

    public int exchange(int object, int place, int other) {
        return (int) ask(s -> s.exchange(object, place, other));
    }

    public int approve(int object) {
        return (int) ask(s -> s.approve(object));
    }

    public int lend(int object, int due, int minimum, int length) {
        return (int) ask(s -> s.lend(object, due, minimum, length));
    }

    public int recall(int object) {
        return (int) ask(s -> s.recall(object));
    }

    public int tick(int hours) {
        return (int) ask(s -> s.tick(hours));
    }

    public int reason(int object) {
        return (int) ask(s -> s.reason(object));
    }

    public int cause(int object) {
        return (int) ask(s -> s.cause(object));
    }

    public int objectsWith(int reason) {
        return (int) ask(s -> s.objectsWith(reason));
    }

    public int next() {
        return (int) ask(s -> s.next());
    }

    public boolean needsApproval(int object, int recipe) {
        return (boolean) ask(s -> s.needsApproval(object, recipe));
    }

    public int approvalsAhead(int object) {
        return (int) ask(s -> s.approvalsAhead(object));
    }

    public int pressFor(int object) {
        return (int) ask(s -> s.pressFor(object));
    }

    public int scoreAfter(int object, int recipe) {
        return (int) ask(s -> s.scoreAfter(object, recipe));
    }

    public int scoreAhead(int object) {
        return (int) ask(s -> s.scoreAhead(object));
    }

    public int bestRecipe(int object) {
        return (int) ask(s -> s.bestRecipe(object));
    }

    public int stepsTo(int object, int recipe, int target) {
        return (int) ask(s -> s.stepsTo(object, recipe, target));
    }

    public int quickestTo(int object, int target) {
        return (int) ask(s -> s.quickestTo(object, target));
    }

    public long cheapestTo(int object, int target) {
        return (long) ask(s -> s.cheapestTo(object, target));
    }

    public int hoursAhead(int object) {
        return (int) ask(s -> s.hoursAhead(object));
    }

    public int bill(int object) {
        return (int) ask(s -> s.bill(object));
    }

    public int allBills() {
        return (int) ask(s -> s.allBills());
    }

    public int billAhead(int object) {
        return (int) ask(s -> s.billAhead(object));
    }

    public int record(int index, int what) {
        return (int) ask(s -> s.record(index, what));
    }

    public int recordsOf(int object, int kind) {
        return (int) ask(s -> s.recordsOf(object, kind));
    }

    public int latestRecord(int object) {
        return (int) ask(s -> s.latestRecord(object));
    }

    public int lost(int object) {
        return (int) ask(s -> s.lost(object));
    }

    public int recorded(int object) {
        return (int) ask(s -> s.recorded(object));
    }

    public int readyAt(int object, int hours) {
        return (int) ask(s -> s.readyAt(object, hours));
    }

    public int scoreIn(int object, int hours) {
        return (int) ask(s -> s.scoreIn(object, hours));
    }

    public int lentIn(int hours) {
        return (int) ask(s -> s.lentIn(hours));
    }

    public int bestBenches(int hours) {
        return (int) ask(s -> s.bestBenches(hours));
    }

    public int quietAt(int hours) {
        return (int) ask(s -> s.quietAt(hours));
    }

    public int lateness(int object) {
        return (int) ask(s -> s.lateness(object));
    }

    public int mostUrgent() {
        return (int) ask(s -> s.mostUrgent());
    }

    public int waitingLoan(int k) {
        return (int) ask(s -> s.waitingLoan(k));
    }

    public int uses(int recipe) {
        return (int) ask(s -> s.uses(recipe));
    }

    public int pressUse(int press) {
        return (int) ask(s -> s.pressUse(press));
    }

    public int inQueues(int recipe) {
        return (int) ask(s -> s.inQueues(recipe));
    }

    public int dryIn(int press) {
        return (int) ask(s -> s.dryIn(press));
    }

    public int rank(int object) {
        return (int) ask(s -> s.rank(object));
    }

    public int below(int bound) {
        return (int) ask(s -> s.below(bound));
    }

    public int objectsIn(int state) {
        return (int) ask(s -> s.objectsIn(state));
    }

    public double meanScore() {
        return (double) ask(s -> s.meanScore());
    }

    public int write(int object) {
        return (int) ask(s -> s.write(object));
    }

    public int outputByte(int index) {
        return (int) ask(s -> s.outputByte(index));
    }

    public int play() {
        return (int) ask(s -> s.play());
    }

    public int undo() {
        return (int) ask(s -> s.undo());
    }

    public int digest() {
        return (int) ask(s -> s.digest());
    }

    public boolean saveSnapshot(int place) {
        return (boolean) ask(s -> s.saveSnapshot(place));
    }

    public boolean restoreSnapshot(int place) {
        return (boolean) ask(s -> s.restoreSnapshot(place));
    }
}
