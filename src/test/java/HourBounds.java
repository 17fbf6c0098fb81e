/** The bounds that 'Terms' names for states, the hour, reasons, records and bills. */
final class HourBounds {
    private HourBounds() {
    }

    private static void says(String words) {
        Sentences.says(words);
    }

    private static void same(String what, Object got, Object due) {
        Bounds.same(what, got, due);
    }

    static void all() {
        Sentences.open("Terms");
        states();
        byNumbers();
        atBench();
        growing();
        behindStep();
        waits();
        cures();
        lent();
        orderAtPresses();
        choosingPresses();
        whoIsLent();
        beingLent();
        whoBegins();
        beginning();
        urgency();
        time();
        reasonsInOrder();
        shelfAndQueue();
        pressReason();
        approvalReasons();
        benchReason();
        causes();
        records();
        bills();
    }

    /** The states and RESTs of an object behind each hour that follows. */
    private static void course(String what, CountedStudio s, int object, int... due) {
        for (int k = 0; k + 1 < due.length; k += 2) {
            s.tick(1);
            same(what + ": state after " + (k / 2 + 1), s.object(object, 3), due[k]);
            same(what + ": REST after " + (k / 2 + 1), s.object(object, 4), due[k + 1]);
        }
    }

    private static void record(String what, CountedStudio s, int index, int... due) {
        for (int k = 0; k < due.length; k++) same(what + " " + k, s.record(index, k), due[k]);
    }

    private static void planEach(CountedStudio s, int objects, int recipe) {
        for (int object = 0; object < objects; object++) s.plan(object, recipe);
    }

    private static void states() {
        says("STATES of an object: 0 on the shelf, 1 at a bench, 2 waiting for a press, 3 curing, 4 lent."
                + " REST is how many hours of work, curing or loan are left (0 in the states 0 and 2).");
        for (int object = 0; object <= 1; object++) {
            CountedStudio s = Bounds.loaded("benches 2;press 9;recipe 2 3 1 0 0 0 1;object 9 500 0;object 9 500 0;");
            planEach(s, 2, 0);
            same("at first", s.object(object, 3), 0);
            same("REST at first", s.object(object, 4), 0);
            if (object == 0) {
                course("in the press", s, 0, 1, 2, 1, 1, 3, 3, 3, 2, 3, 1, 0, 0, 0, 0);
            } else {
                course("waits", s, 1, 1, 2, 1, 1, 2, 0, 2, 0, 2, 0, 3, 3, 3, 2, 3, 1, 0, 0);
            }
            s.lend(object, 0, 0, 2);
            course("lent", s, object, 4, 2, 4, 1, 0, 0);
        }
    }

    private static void byNumbers() {
        says("AN HOUR goes in this order: 1. For each object, by numbers, by the state that it has at the beginning of the hour:");
        CountedStudio s = Bounds.loaded("benches 2;recipe 1 0 0 0 0 0 1;object 1 5 0;object 1 6 0;");
        s.lend(1, 5, 1000, 1);
        planEach(s, 2, 0);
        s.tick(2);
        same("object 0 has the first record", s.record(0, 0), 0);
        same("the more urgent one has the second", s.record(1, 0), 1);
        CountedStudio waits = Bounds.loaded("benches 2;press 9;recipe 1 9 1 0 0 0 1;object 9 500 0;object 9 500 0;");
        planEach(waits, 2, 0);
        waits.tick(2);
        same("at a bench at the beginning: nothing is lost in the hour", waits.object(1, 1), 500);
        waits.tick(1);
        same("waits at the beginning", waits.object(1, 1), 499);
    }

    private static void atBench() {
        says("at a bench, REST decreases by 1; if it is 0 then, the step is done:");
        for (int work : new int[] {1, 2, 40}) {
            CountedStudio s = Bounds.loaded("recipe " + work + " 0 0 0 0 0 1;object 1 5 0;");
            s.plan(0, 0);
            s.tick(1);
            same("REST of " + work, s.object(0, 4), work);
            if (work > 1) s.tick(work - 1);
            same("REST of the last hour of " + work, s.object(0, 4), 1);
            same("not done after " + work, s.count(9), 0);
            s.tick(1);
            same("done after " + work, s.count(9), 1);
            same("and on the shelf after " + work, s.object(0, 3), 0);
        }
    }

    private static void growing() {
        says("the SCORE grows by BASE + RATE * (1000 - SCORE) / 100, to at most 1000, which makes a record;");
        int[][] growths = {{0, 0, 0, 0}, {500, 100, 0, 1000}, {100, 0, 899, 999}, {100, 0, 900, 1000}, {100, 0, 901, 1000},
            {0, 100, 0, 1000}, {0, 99, 999, 999}, {0, 1, 900, 901}, {0, 1, 901, 901}, {500, 0, 1000, 1000}, {0, 100, 1000, 1000},
            {1, 0, 0, 1}, {499, 50, 0, 999}, {500, 50, 0, 1000}, {500, 50, 2, 1000}};
        for (int[] growth : growths) {
            CountedStudio s = Bounds.loaded("recipe 1 0 0 0 " + growth[0] + " " + growth[1] + " 1;object 1 " + growth[2] + " 0;");
            s.plan(0, 0);
            s.tick(2);
            same("BASE " + growth[0] + ", RATE " + growth[1] + ", SCORE " + growth[2], s.object(0, 1), growth[3]);
            same("one record", s.count(8), 1);
            record("record", s, 0, 0, 0, 0, 1, growth[2], growth[3]);
        }
    }

    private static void behindStep() {
        says("then the object is on the shelf if CURE is 0, waits for a press if PRESS is 1, and cures otherwise, with REST CURE.");
        CountedStudio none = curing(0, 1, 0);
        course("CURE 0 with PRESS 1", none, 0, 1, 1, 0, 0, 0, 0);
        same("came into no press", none.pressUse(0), 0);
        same("and has no record of it", none.count(8), 1);
        course("CURE 0", curing(0, 0, 0), 0, 1, 1, 0, 0);
        course("CURE 1 with PRESS 1", curing(1, 1, 0), 0, 1, 1, 3, 1, 0, 0);
        CountedStudio one = curing(1, 0, 0);
        course("CURE 1", one, 0, 1, 1, 3, 1, 0, 0);
        same("without a press", one.pressUse(0), 0);
        for (int press = 0; press <= 1; press++) {
            CountedStudio s = curing(200, press, 2);
            same("state at CURE 200", s.object(0, 3), 3);
            same("REST at CURE 200", s.object(0, 4), 200);
            s.tick(199);
            same("REST of the last hour", s.object(0, 4), 1);
            s.tick(1);
            same("state then", s.object(0, 3), 0);
        }
        CountedStudio two = curing(9, 1, 0);
        two.plan(1, 0);
        two.tick(3);
        same("waits for the press that is taken", two.object(1, 3), 2);
    }

    /** Two objects, a press that is great enough for one, and a recipe of an hour's work; the first object begins. */
    private static CountedStudio curing(int cure, int press, int hours) {
        CountedStudio s = Bounds.loaded("press 9;recipe 1 " + cure + " " + press + " 0 0 0 1;object 9 500 0;object 9 500 0;");
        s.plan(0, 0);
        if (hours > 0) s.tick(hours);
        return s;
    }

    private static void waits() {
        says("Waiting for a press, the SCORE decreases by 1 (not below 0).");
        CountedStudio s = Bounds.loaded("benches 2;press 9;recipe 1 5 1 0 0 0 1;object 9 500 0;object 9 2 0;");
        planEach(s, 2, 0);
        s.tick(2);
        int[] scores = {2, 1, 0, 0, 0, 0};
        for (int hour = 0; hour < scores.length; hour++) {
            same("after " + hour, s.object(1, 1), scores[hour]);
            same("the other after " + hour, s.object(0, 1), 500);
            s.tick(1);
        }
        record("lost", s, 3, 1, 1, 0, 6, 2, 0);
    }

    private static void cures() {
        says("Curing, REST decreases by 1; if it is 0 then, the object is on the shelf, and its press, if it has one, is free.");
        CountedStudio s = Bounds.loaded("benches 2;press 9;press 9;recipe 1 5 1 0 0 0 1;recipe 1 2 0 0 0 0 1;object 9 500 0;object 9 500 0;");
        for (int object = 0; object <= 1; object++) s.plan(object, object);
        s.tick(4);
        same("1 is on the shelf", s.object(1, 3), 0);
        same("the press of 0 is not free by it", s.press(0, 1), 0);
        same("REST", s.object(0, 4), 3);
        s.tick(2);
        same("REST of the last hour", s.object(0, 4), 1);
        same("not free yet", s.count(7), 1);
        s.tick(1);
        same("free", s.count(7), 2);
        same("nobody is in it", s.press(0, 1), -1);
        same("on the shelf", s.object(0, 3), 0);
        same("in no press", s.object(0, 8), -1);
    }

    private static void lent() {
        says("Lent, REST decreases by 1; if it is 0 then, the object is on the shelf, and the SCORE decreases by 20 (not below 0), which makes a record.");
        int[][] scores = {{0, 0}, {1, 0}, {19, 0}, {20, 0}, {21, 1}, {1000, 980}};
        for (int[] score : scores) {
            CountedStudio s = Bounds.loaded("object 1 " + score[0] + " 0;");
            s.lend(0, 0, 0, 2);
            s.tick(2);
            same("lent with " + score[0], s.object(0, 1), score[0]);
            same("no record yet", s.count(8), 0);
            s.tick(1);
            same("back from " + score[0], s.object(0, 1), score[1]);
            same("on the shelf", s.object(0, 3), 0);
            same("one record", s.count(8), 1);
            record("record", s, 0, 0, 2, -1, 2, score[0], score[1]);
        }
        for (int length : new int[] {1, 500}) {
            CountedStudio s = Bounds.loaded("object 1 50 0;");
            s.lend(0, 0, 0, length);
            s.tick(1);
            same("REST", s.object(0, 4), length);
            if (length > 1) s.tick(length - 1);
            same("the last hour", s.object(0, 4), 1);
            s.tick(1);
            same("back", s.object(0, 1), 30);
        }
    }

    private static void orderAtPresses() {
        says("2. The objects that wait for a press, those that began to wait earlier first, then by numbers:");
        CountedStudio s = Bounds.loaded("benches 3;press 9;recipe 3 9 1 0 0 0 1;recipe 2 9 1 0 0 0 1;recipe 1 5 1 0 0 0 1;"
                + "object 9 500 0;object 9 500 0;object 9 500 0;");
        s.lend(0, 0, 1000, 1);
        for (int object = 0; object <= 2; object++) s.plan(object, object);
        s.tick(6);
        same("1 waits from the hour 2, 0 from the hour 3", s.objectsIn(2), 3);
        s.tick(1);
        same("1 began to wait earlier", s.press(0, 1), 1);
        CountedStudio t = Bounds.loaded("benches 3;press 9;recipe 1 5 1 0 0 0 1;object 9 500 0;object 9 500 0;object 9 500 0;");
        t.lend(2, 0, 1000, 1);
        planEach(t, 3, 0);
        t.tick(2);
        same("the lowest of all", t.press(0, 1), 0);
        t.tick(5);
        same("the lowest of those that wait, though 2 is more urgent", t.press(0, 1), 1);
        t.tick(5);
        same("the last one", t.press(0, 1), 2);
        CountedStudio late = Bounds.at(19990, "benches 4;press 9;recipe 1 3 1 0 0 0 1;recipe 2 1 1 0 0 0 1;" + "object 9 500 0;".repeat(16));
        late.plan(15, 0);
        late.plan(14, 0);
        late.plan(0, 1);
        late.tick(8);
        // 14 is in the press from the hour 19991 to 19994, then comes 15, who waits since then, ahead of 0
        same("late hours and high numbers, too", late.press(0, 1), 0);
        record("15 first", late, 4, 15, 1, 0, 19994, 500, 497);
    }

    private static void choosingPresses() {
        says("each gets the free press with the least SIZE that is not less than its own (of several the lowest one), if there is one:");
        CountedStudio s = Bounds.loaded("benches 4;press 30;press 10;press 20;press 10;press 9;recipe 1 9 1 0 0 0 1;"
                + "object 10 500 0;object 10 500 0;object 11 500 0;object 20 500 0;object 30 500 0;");
        planEach(s, 5, 0);
        s.tick(3);
        int[] inside = {3, 0, 2, 1, -1};
        for (int press = 0; press < 5; press++) same("press " + press, s.press(press, 1), inside[press]);
        same("for the fifth there is none", s.object(4, 3), 2);
        CountedStudio t = Bounds.loaded("benches 2;press 20;press 5;recipe 1 9 1 0 0 0 1;object 20 100 0;object 20 100 0;object 5 100 0;");
        planEach(t, 3, 0);
        t.tick(3);
        same("one behind it comes in", t.press(1, 1), 2);
        same("for 1 there is none", t.objectsIn(2), 2);
        t.tick(8);
        same("a press that comes free in the hour is free", t.press(0, 1), 1);

        says("it cures with REST CURE; what it lost while it waited makes a record (also if it is 0).");
        same("REST of one that waited", t.object(1, 4), 9);
        // done in the hour 1: object 0 in the press at once, object 1 waits until the hour 10; object 2 is done in the hour 2
        record("nothing", t, 2, 0, 1, 0, 1, 100, 100);
        record("nothing", t, 4, 2, 1, 0, 2, 100, 100);
        record("nine", t, 5, 1, 1, 0, 10, 100, 91);
        same("no more records", t.count(8), 6);
    }

    private static void whoIsLent() {
        says("3. Each object on the shelf, by numbers, whose queue is empty and whose loan waits, with DUE the time or less, and SCORE at least MINIMUM:");
        CountedStudio s = Bounds.loaded("recipe 3 0 0 0 1 0 1;recipe 1 0 0 3 0 0 1;"
                + "object 1 500 0;object 1 500 0;object 1 500 0;object 1 500 1;object 1 499 0;");
        s.lend(0, 3, 500, 9);
        s.lend(1, 0, 501, 9);
        s.lend(3, 0, 0, 9);
        s.lend(4, 0, 500, 9);
        s.plan(3, 1);
        s.plan(4, 0);
        s.tick(3);
        same("none: too early, too bad, no loan, a queue, at a bench", s.objectsIn(4), 0);
        s.tick(1);
        same("DUE is the time, SCORE is MINIMUM; and SCORE became so in the hour", s.objectsIn(4), 17);
        s.clearQueue(3);
        s.tick(1);
        same("the queue is empty", s.objectsIn(4), 25);
        same("SCORE is less by one", s.object(1, 3), 0);
        CountedStudio last = Bounds.at(19999, "object 1 1 0;object 1 1 0;");
        last.lend(0, 19999, 0, 1);
        last.lend(1, 20000, 0, 1);
        last.tick(1);
        same("in the last hour", last.objectsIn(4), 1);
        for (int minimum = 80; minimum <= 81; minimum++) {
            CountedStudio back = Bounds.loaded("object 1 100 0;");
            back.lend(0, 0, 0, 2);
            back.tick(1);
            back.lend(0, 0, minimum, 3);
            back.tick(1);
            same("lent: not on the shelf", back.loan(0, 1), minimum);
            back.tick(1);
            same("back with 80, lent again in the same hour or not", back.object(0, 4), minimum == 80 ? 3 : 0);
        }
    }

    private static void beingLent() {
        says("it is lent with REST LENGTH; the loan does not wait any more; it is late by the time minus DUE.");
        for (int length : new int[] {1, 500}) {
            CountedStudio s = Bounds.loaded("object 1 1 0;");
            s.lend(0, 3, 0, length);
            s.tick(4);
            same("REST", s.object(0, 4), length);
            same("no loan waits", s.loan(0, 0), -1);
            same("one began", s.count(10), 1);
            same("not late", s.count(11), 0);
        }
        for (int late = 1; late <= 2; late++) {
            CountedStudio s = Bounds.at(19999, "object 1 1 0;");
            s.lend(0, 19999 - late, 0, 1);
            s.tick(1);
            same("late", s.count(11), late);
        }
        CountedStudio s = Bounds.at(19999, "object 1 1 0;".repeat(16));
        for (int object = 0; object < 16; object++) s.lend(object, 0, 0, 1);
        s.tick(1);
        same("all as late as can be", s.count(11), 16 * 19999);
        same("all began", s.count(10), 16);
    }

    private static void whoBegins() {
        says("4. As long as a bench is free, of the objects that can begin a step the most urgent one begins:");
        int[] first = {0, 8, 12, 14, 15};
        int[] then = {0, 4, 3, 1, 0};
        for (int benches = 1; benches <= 4; benches++) {
            CountedStudio s = Bounds.loaded("benches " + benches + ";recipe 2 0 0 0 0 0 1;recipe 1 0 0 3 0 0 1;"
                    + "object 1 1 0;object 1 1 0;object 1 1 0;object 1 1 0;object 1 1 1;");
            for (int object = 0; object < 4; object++) {
                s.plan(object, 0);
                s.lend(object, 9 - object, 1000, 1);
            }
            s.plan(4, 1);
            s.lend(4, 0, 1000, 1);
            s.tick(1);
            same("with benches " + benches, s.objectsIn(1), first[benches]);
            s.tick(2);
            same("benches that come free in the hour are free", s.objectsIn(1), then[benches]);
        }
    }

    private static void beginning() {
        says("it is at a bench with REST WORK, the first recipe goes from its queue, its approval is gone.");
        CountedStudio s = Bounds.loaded("recipe 40 0 0 3 0 0 1;recipe 1 0 0 3 0 0 1;object 1 1 1;");
        for (int n = 0; n < 8; n++) s.plan(0, n % 2);
        s.approve(0);
        s.tick(1);
        same("REST", s.object(0, 4), 40);
        same("seven are left", s.object(0, 5), 7);
        same("the second is the first", s.queued(0, 0), 1);
        same("the last has moved up", s.queued(0, 6), 1);
        same("none behind it", s.queued(0, 7), -1);
        same("no approval", s.object(0, 6), -1);
        same("the recipe that goes on", s.object(0, 7), 0);
        s.tick(40);
        same("the next one has to be approved anew", s.reason(0), 4);
        // an approval that ends at 5 is good in the hour 4 and not in the hour 5
        for (int free = 4; free <= 5; free++) {
            CountedStudio t = Bounds.loaded("life 5;recipe " + free + " 0 0 0 0 0 1;recipe 1 0 0 3 0 0 1;object 1 1 0;object 1 1 1;");
            t.plan(0, 0);
            t.plan(1, 1);
            t.approve(1);
            t.tick(9);
            same("the bench is free in the hour " + free, t.object(1, 9), free == 4 ? 1 : 0);
        }
    }

    private static void urgency() {
        says("The URGENCY is the DUE of its loan that waits, 30000 without; the least one is the most urgent, of several the lowest object.");
        CountedStudio s = Bounds.loaded("recipe 1 0 0 0 0 0 1;object 1 1 0;object 1 1 0;object 1 1 0;object 1 1 0;");
        planEach(s, 4, 0);
        same("without", s.object(2, 10), 30000);
        same("the lowest of all", s.next(), 0);
        same("the greatest DUE", s.lend(2, 20000, 1000, 1), 20000);
        same("is more urgent than none", s.next(), 2);
        s.lend(1, 20000, 1000, 1);
        same("the lowest of two", s.next(), 1);
        s.lend(3, 1, 1000, 1);
        same("the least", s.next(), 3);
        s.lend(0, 0, 1000, 1);
        same("0 is less", s.next(), 0);
        int[] order = {0, 3, 1, 2};
        for (int object : order) {
            s.tick(1);
            same("begins in this order", s.objectsIn(1), 1 << object);
        }
    }

    private static void time() {
        says("5. The time increases by 1.");
        CountedStudio s = Bounds.loaded("recipe 1 0 0 0 0 0 1;object 1 1 0;");
        s.plan(0, 0);
        same("an hour", s.tick(1), 1);
        s.tick(1);
        same("the record is older than the time", s.record(0, 3), 1);
        same("the time", s.count(4), 2);
    }

    private static void reasonsInOrder() {
        says("An object CAN BEGIN a step if none of the following reasons holds; the first one that does is its reason:");
        CountedStudio s = Bounds.loaded("life 2;recipe 9 0 0 3 0 0 1;recipe 2 0 1 3 0 0 1;recipe 2 0 0 0 0 0 1;object 5 1 1;object 5 1 1;object 5 1 0;");
        s.plan(0, 0);
        s.approve(0);
        same("none", s.reason(0), 0);
        s.tick(1);
        same("1, though 2 and 6 hold", s.reason(0), 1);
        same("2, though 6 holds", s.reason(1), 2);
        s.plan(1, 1);
        same("3, though 4 and 6 hold", s.reason(1), 3);
        s.approve(1);
        same("3 also with an approval", s.reason(1), 3);
        s.tick(2);
        same("3, though 5 and 6 hold", s.reason(1), 3);
        s.clearQueue(1);
        s.plan(1, 0);
        same("4, though 6 holds", s.reason(1), 4);
        s.approve(1);
        s.tick(2);
        same("5, though 6 holds", s.reason(1), 5);
        s.plan(2, 2);
        same("6", s.reason(2), 6);
        s.plan(0, 1);
        same("1, though 3 and 4 hold", s.reason(0), 1);
    }

    private static void shelfAndQueue() {
        says("1 it is not on the shelf;");
        CountedStudio busy = Bounds.busy();
        int[] states = {2, 3, 1, 4, 0};
        int[] reasons = {1, 1, 1, 1, 0};
        for (int object = 0; object < 5; object++) {
            same("state of " + object, busy.object(object, 3), states[object]);
            same("reason of " + object, busy.reason(object), reasons[object]);
        }

        says("2 its queue is empty;");
        CountedStudio s = Bounds.loaded("recipe 1 0 0 0 0 0 1;object 1 1 0;");
        same("empty", s.reason(0), 2);
        s.plan(0, 0);
        same("one", s.reason(0), 0);
        s.cancel(0);
        same("empty again", s.reason(0), 2);
    }

    private static void pressReason() {
        says("3 the first recipe of the queue has PRESS 1, and there is no press of a SIZE that is not less than that of the object (free or not);");
        CountedStudio s = Bounds.loaded("press 3;press 50;press 7;recipe 1 9 1 0 0 0 1;recipe 1 9 0 0 0 0 1;"
                + "object 49 1 0;object 50 1 0;object 51 1 0;object 100 1 0;");
        planEach(s, 4, 0);
        int[] fits = {0, 0, 3, 3};
        for (int object = 0; object < 4; object++) same("SIZE of " + object, s.reason(object), fits[object]);
        s.plan(2, 1);
        same("the first counts", s.reason(2), 3);
        s.exchange(2, 0, 1);
        same("not the second", s.reason(2), 0);
        CountedStudio taken = curing(9, 1, 2);
        same("0 is in the press", taken.press(0, 1), 0);
        taken.plan(1, 0);
        same("a press that is not free is one, too", taken.reason(1), 0);
        CountedStudio none = Bounds.loaded("recipe 1 9 1 0 0 0 1;object 1 1 0;");
        none.plan(0, 0);
        same("without presses", none.reason(0), 3);
        CountedStudio uncured = Bounds.loaded("recipe 1 0 1 0 0 0 1;object 1 1 0;");
        uncured.plan(0, 0);
        same("also with CURE 0", uncured.reason(0), 3);
    }

    private static void approvalReasons() {
        says("4 the step needs an approval, and there is none; 5 it needs one, and the one that there is has ended (its end is the time or less);");
        CountedStudio s = Bounds.loaded("life 2;recipe 9 0 0 0 0 0 1;recipe 1 0 0 3 0 0 1;object 1 1 0;object 1 1 0;object 1 1 1;");
        s.plan(0, 0);
        s.plan(1, 1);
        s.plan(2, 1);
        same("3 and 0 need none", s.reason(1), 0);
        same("3 and 1 need one", s.reason(2), 4);
        s.approve(2);
        same("approved", s.reason(2), 0);
        s.tick(1);
        same("its end is the time and 1", s.reason(2), 6);
        s.tick(1);
        same("its end is the time", s.reason(2), 5);
        s.tick(1);
        same("its end is less", s.reason(2), 5);
        same("it is there, though it has ended", s.object(2, 6), 2);
        s.approve(2);
        same("approved again", s.reason(2), 6);
    }

    private static void benchReason() {
        says("6 no bench is free.");
        CountedStudio s = Bounds.loaded("benches 2;recipe 1 0 0 0 0 0 1;recipe 2 0 0 0 0 0 1;object 1 1 0;object 1 1 0;object 1 1 0;");
        s.plan(0, 0);
        s.tick(1);
        s.plan(2, 0);
        same("one of two is free", s.reason(2), 0);
        s.cancel(2);
        s.plan(1, 1);
        s.plan(0, 1);
        s.tick(1);
        s.plan(2, 0);
        same("none is free", s.reason(2), 6);
    }

    private static void causes() {
        says("A reason can have a cause: of 1 the state (1 to 4); of 3 the greatest SIZE of a press (0 without presses);"
                + " of 5 the end of the approval; otherwise there is none.");
        CountedStudio busy = Bounds.busy();
        int[] states = {2, 3, 1, 4, -1};
        for (int object = 0; object < 5; object++) same("cause of " + object, busy.cause(object), states[object]);
        CountedStudio none = Bounds.loaded("recipe 1 9 1 0 0 0 1;object 1 1 0;");
        same("of 2", none.cause(0), -1);
        none.plan(0, 0);
        same("without presses", none.cause(0), 0);
        CountedStudio some = Bounds.loaded("press 3;press 99;press 7;recipe 1 9 1 0 0 0 1;object 100 1 0;object 99 1 0;");
        planEach(some, 2, 0);
        same("the greatest", some.cause(0), 99);
        same("of 0", some.cause(1), -1);
        CountedStudio ended = Bounds.loaded("life 2;recipe 9 0 0 3 0 0 1;object 1 1 1;object 1 1 0;");
        planEach(ended, 2, 0);
        same("of 4", ended.cause(0), -1);
        ended.lend(1, 0, 1000, 1);
        ended.approve(0);
        ended.tick(1);
        same("of 6", ended.cause(0), -1);
        ended.tick(1);
        same("of 5", ended.cause(0), 2);
    }

    /** So many records, each of a step of an hour that brings the SCORE from n - 1 to n. */
    static CountedStudio withRecords(int records) {
        CountedStudio s = Bounds.loaded("recipe 1 0 0 0 1 0 1;object 1 0 0;object 1 0 0;");
        for (int made = 0; made < records; made += 8) {
            int steps = Math.min(8, records - made);
            for (int n = 0; n < steps; n++) s.plan(0, 0);
            s.tick(steps + 1);
        }
        return s;
    }

    private static void records() {
        says("RECORDS are kept, the latest 100: object, kind (0 step, 1 what was lost while it waited for a press, 2 a loan that ended),"
                + " recipe (NONE with kind 2), the time when it was made (as it was in the hour, ahead of its 5.),"
                + " and the SCORE ahead of it and behind it.");
        for (int records : new int[] {0, 1, 99, 100, 101, 199, 200, 201, 207}) {
            CountedStudio s = withRecords(records);
            int kept = Math.min(records, 100);
            same("kept of " + records, s.count(8), kept);
            for (int index = 0; index < kept; index++) {
                same("behind " + index + " of " + records, s.record(index, 5), records - kept + index + 1);
            }
            same("none behind the last of " + records, Bounds.answer(s, x -> x.record(kept, 0)), Bounds.NO_SUCH);
        }
        CountedStudio s = Bounds.loaded("press 1;recipe 1 1 1 0 5 0 1;object 1 7 0;");
        s.plan(0, 0);
        s.lend(0, 0, 0, 1);
        s.tick(5);
        record("a step", s, 0, 0, 0, 0, 1, 7, 12);
        record("a press", s, 1, 0, 1, 0, 1, 12, 12);
        record("a loan", s, 2, 0, 2, -1, 3, 12, 0);
        CountedStudio last = Bounds.at(19998, "recipe 1 0 0 0 5 0 1;object 1 7 0;");
        last.plan(0, 0);
        last.tick(2);
        record("in the last hour", last, 0, 0, 0, 0, 19999, 7, 12);
    }

    /** Recipes that cost 4000000000, 2000000000, 100000000, 47483647, 94967296 and 1; object 0 has some of them in its queue. */
    static CountedStudio dear(int... queue) {
        CountedStudio s = Bounds.loaded("recipe 40 0 0 0 0 0 100000000;recipe 20 0 0 0 0 0 100000000;recipe 1 0 0 0 0 0 100000000;"
                + "recipe 1 0 0 0 0 0 47483647;recipe 1 0 0 0 0 0 94967296;recipe 1 0 0 0 0 0 1;object 1 1 0;object 1 1 0;");
        for (int recipe : queue) s.plan(0, recipe);
        return s;
    }

    /** The same, with all of them done. */
    static CountedStudio owing(int... queue) {
        CountedStudio s = dear(queue);
        s.tick(330);
        return s;
    }

    private static void bills() {
        says("BILLS. Each step that is done costs WORK * WAGE, which is added to what its object owes.");
        CountedStudio s = dear(5, 3);
        same("nothing", s.bill(0), 0);
        s.tick(1);
        same("not done", s.bill(0), 0);
        s.tick(1);
        same("done", s.bill(0), 1);
        s.tick(1);
        same("added", s.bill(0), 47483648);
        same("the other owes nothing", s.bill(1), 0);
        same("hours of work count", owing(1).bill(0), 2000000000);

        says("All that is owed is counted exactly; where an int cannot hold it, it is told by an ArithmeticException.");
        same("2147483647", Bounds.answer(owing(1, 2, 3), x -> x.bill(0)), Bounds.MAX);
        same("2147483648", Bounds.answer(owing(1, 2, 3, 5), x -> x.bill(0)), Bounds.TOO_GREAT);
        same("4000000000", Bounds.answer(owing(0), x -> x.bill(0)), Bounds.TOO_GREAT);
        same("two to the 32nd", Bounds.answer(owing(0, 2, 2, 4), x -> x.bill(0)), Bounds.TOO_GREAT);
        same("and one", Bounds.answer(owing(0, 2, 2, 4, 5), x -> x.bill(0)), Bounds.TOO_GREAT);
        same("32000000000", Bounds.answer(owing(0, 0, 0, 0, 0, 0, 0, 0), x -> x.bill(0)), Bounds.TOO_GREAT);
        Bounds.refused("it", () -> owing(0), Bounds.TOO_GREAT, x -> x.bill(0));
    }
}
