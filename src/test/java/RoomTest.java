import java.lang.management.ManagementFactory;

/**
 * All calls of a run live in one room: a studio takes a bounded part of it, and its calls take nothing more, as
 * its rows are made once and used again (LANGUAGE.md, rule 12). Measured in bytes by the Java machine itself.
 */
public final class RoomTest {
    private static final com.sun.management.ThreadMXBean MEMORY = (com.sun.management.ThreadMXBean) ManagementFactory.getThreadMXBean();
    /** What one studio may take with all its rows; 7.3 million elements hold some hundreds of such studios. */
    private static final long MOST_OF_ALL = 200_000;
    /** Behind the calls that use all rows, a studio has as many of its 512 left. */
    private static final int CALLS_LEFT = 300;

    private interface Call {
        void of(RepairStudio studio);
    }

    public static void main(String[] args) {
        useAllRows(full());
        long before = taken();
        useAllRows(full());
        long made = taken() - before;
        Check.same("a studio with all its rows takes " + made + " bytes of " + MOST_OF_ALL, made > 0 && made <= MOST_OF_ALL, true);
        changes();
        questions();
        texts();
        Check.report("RoomTest");
    }

    private static long taken() {
        return MEMORY.getThreadAllocatedBytes(Thread.currentThread().getId());
    }

    private static void put(RepairStudio studio, String text) {
        int[] words = new int[250];
        for (int at = 0; at < text.length(); at++) words[at / 4] |= text.charAt(at) << (24 - 8 * (at % 4));
        for (int at = 0; 4 * at < text.length(); at += 5) studio.appendInput(words[at], words[at + 1], words[at + 2], words[at + 3], words[at + 4]);
        studio.truncateInput(text.length());
    }

    private static RepairStudio full() {
        RepairStudio studio = new RepairStudio();
        put(studio, "benches 4;" + "press 9;".repeat(6) + "recipe 1 1 1 3 9 1 9;".repeat(10) + "object 9 0 1;".repeat(16));
        Check.same("a full studio", studio.load(), 16);
        return studio;
    }

    private static void useAllRows(RepairStudio s) {
        for (int object = 0; object < 16; object++) {
            for (int place = 0; place < 8; place++) s.plan(object, place);
            s.approve(object);
            s.lend(object, 5, 0, 9);
        }
        s.tick(100);
        s.saveSnapshot(0);
        s.saveSnapshot(1);
        s.lentIn(9);
        s.write(0);
        Check.same("all calls to undo", s.count(12), 10);
    }

    /** So many calls together, asked again and again, take nothing; the first time may load classes. */
    private static void takeNothing(String name, int calls, Call call) {
        RepairStudio studio = full();
        useAllRows(studio);
        call.of(studio);
        int times = CALLS_LEFT / calls - 1;
        long before = taken();
        for (int n = 0; n < times; n++) call.of(studio);
        long more = taken() - before;
        Check.same(times + " times " + name + " take bytes", more, 0L);
    }

    private static void changes() {
        takeNothing("plan, cancel and undo", 4, s -> {
            s.plan(3, 0);
            s.cancel(3);
            s.undo();
            s.undo();
        });
        takeNothing("exchange, approve, lend, recall, clearQueue and undo", 10, s -> {
            s.exchange(3, 0, 1);
            s.approve(3);
            s.lend(3, 5, 0, 9);
            s.recall(3);
            s.clearQueue(3);
            for (int n = 0; n < 5; n++) s.undo();
        });
        takeNothing("tick and undo", 2, s -> {
            s.tick(20);
            s.undo();
        });
        takeNothing("snapshots", 2, s -> {
            s.saveSnapshot(1);
            s.restoreSnapshot(0);
        });
        takeNothing("write", 1, s -> s.write(3));
    }

    private static void questions() {
        takeNothing("count, press, recipe, object, queued, loan", 47, s -> {
            for (int what = -1; what <= 13; what++) s.count(what);
            for (int what = -1; what <= 2; what++) s.press(5, what);
            for (int what = -1; what <= 7; what++) s.recipe(9, what);
            for (int what = -1; what <= 11; what++) s.object(15, what);
            for (int what = -1; what <= 3; what++) s.loan(15, what);
            s.queued(15, 7);
        });
        takeNothing("reasons", 13, s -> {
            for (int reason = 0; reason <= 6; reason++) s.objectsWith(reason);
            s.reason(3);
            s.cause(3);
            s.next();
            s.needsApproval(3, 3);
            s.approvalsAhead(3);
            s.pressFor(3);
        });
        takeNothing("scores, hours and costs ahead", 7, s -> {
            s.scoreAfter(3, 3);
            s.scoreAhead(3);
            s.bestRecipe(3);
            s.stepsTo(3, 3, 1000);
            s.quickestTo(3, 1000);
            s.cheapestTo(3, 1000);
            s.hoursAhead(3);
        });
        takeNothing("bills and records", 27, s -> {
            s.bill(3);
            s.allBills();
            s.billAhead(3);
            for (int index = 0; index < 20; index++) s.record(index, 5);
            s.recordsOf(3, 0);
            s.latestRecord(3);
            s.lost(3);
            s.recorded(3);
        });
        takeNothing("forecasts", 5, s -> {
            s.readyAt(3, 50);
            s.scoreIn(3, 50);
            s.lentIn(50);
            s.bestBenches(20);
            s.quietAt(50);
        });
        takeNothing("counts, ranks and sets", 13, s -> {
            s.lateness(3);
            s.mostUrgent();
            s.waitingLoan(3);
            s.uses(3);
            s.pressUse(3);
            s.inQueues(3);
            s.dryIn(3);
            s.rank(3);
            s.below(500);
            s.objectsIn(0);
            s.meanScore();
            s.outputByte(0);
            s.digest();
        });
    }

    /** "tick 1;tick 1;tick 1;" without a reader's new object for a text, a token or a command. */
    private static void texts() {
        takeNothing("scripts", 6, s -> {
            s.appendInput(0x7469636b, 0x20313b74, 0x69636b20, 0x313b7469, 0x636b2031);
            s.appendInput(0x3b202020, 0x20202020, 0x20202020, 0x20202020, 0x20202020);
            s.play();
            s.undo();
            s.undo();
            s.undo();
        });
        takeNothing("texts", 7, s -> {
            s.appendInput(0x6f626a65, 0x63742035, 0x20362030, 0x3b202020, 0x20202020);
            s.load();
            s.errorCode();
            s.errorPosition();
            s.appendInput(0x6f626a65, 0x63742035, 0x20362030, 0x3b203b20, 0x20202020);
            s.truncateInput(19);
            s.load();
        });
    }
}
