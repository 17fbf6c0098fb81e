/** The bounds of the promises 43 to 65: forecasts, loans that wait, counts and sets, the output, scripts, steps back and snapshots. */
final class LaterBounds {
    private LaterBounds() {
    }

    private static void says(String words) {
        Sentences.says(words);
    }

    private static void same(String what, Object got, Object due) {
        Bounds.same(what, got, due);
    }

    private static void promise(int number) {
        Sentences.open("Promise " + number);
    }

    static void all() {
        readyAt();
        scoreIn();
        lentIn();
        bestBenches();
        quietAt();
        lateness();
        urgentLoans();
        waitingLoan();
        counts();
        dryIn();
        ranks();
        objectsIn();
        meanScore();
        write();
        outputByte();
        play();
        undo();
        digest();
        saveSnapshot();
        restoreSnapshot();
    }

    /** Two objects for one press: 0 cures in it in the hours 1 to 4, 1 waits from the hour 2 and comes in in 4. */
    private static CountedStudio waiting() {
        CountedStudio s = Bounds.loaded("press 9;recipe 1 3 1 0 5 0 1;object 9 100 0;object 9 200 0;");
        for (int object = 0; object <= 1; object++) s.plan(object, 0);
        return s;
    }

    /** An object that is lent in the hour ahead of the time, for so many hours: it is back behind as many. */
    private static CountedStudio lent(int time, int length) {
        CountedStudio s = Bounds.at(time - 1, "recipe 1 0 0 0 1 0 1;object 1 100 0;");
        s.lend(0, 0, 0, length);
        s.tick(1);
        return s;
    }

    private static void readyAt() {
        promise(43);
        says("Forecasts the time at which an object is first on the shelf with an empty queue, if nothing is done but hours that go by."
                + " (It is looked at now and behind each whole hour.) - object: number of an object - hours: 1 to 500, how many hours are looked at"
                + " Returns the time (the present one if it is so now);");
        Bounds.asked("the first", LaterBounds::waiting, 5, s -> s.readyAt(0, 500));
        Bounds.asked("the second", LaterBounds::waiting, 8, s -> s.readyAt(1, 500));
        Bounds.asked("now", Bounds::full, 0, s -> s.readyAt(15, 1));
        Bounds.asked("now, of 500", Bounds::full, 0, s -> s.readyAt(15, 500));
        Bounds.asked("lent", Bounds::busy, 62, s -> s.readyAt(3, 500));
        CountedStudio now = lent(1, 1);
        now.tick(1);
        now.lend(0, 0, 0, 50);
        same("it is so now, though lent in the hour", now.readyAt(0, 1), 2);
        now.tick(1);
        now.plan(0, 0);
        // back in the hour 52, at a bench in it until the hour 53
        same("back with a queue, which goes on", now.readyAt(0, 500), 54);
        CountedStudio both = Bounds.loaded("recipe 1 0 0 0 1 0 1;object 1 100 0;");
        both.plan(0, 0);
        both.lend(0, 0, 0, 5);
        // done and lent in the hour 1: behind it is not on the shelf; back in the hour 6
        same("lent in the hour in which the step is done", both.readyAt(0, 500), 7);

        says("NONE if it is not so within these hours, or not at the time 20000 at the latest.");
        same("just within", waiting().readyAt(0, 5), 5);
        same("an hour too early", waiting().readyAt(0, 4), -1);
        same("one hour", waiting().readyAt(0, 1), -1);
        for (int length : new int[] {1, 2, 499, 500}) {
            same("just within " + length, lent(1, length).readyAt(0, length), 1 + length);
            if (length > 1) same("an hour too early for " + length, lent(1, length).readyAt(0, length - 1), -1);
        }
        same("at 20000", lent(19500, 500).readyAt(0, 500), 20000);
        same("behind 20000", lent(19501, 500).readyAt(0, 500), -1);
        same("at 20000, of more hours", lent(19999, 1).readyAt(0, 500), 20000);
        same("behind 20000, in one hour", lent(20000, 1).readyAt(0, 1), -1);
        same("now, at 20000", Bounds.at(20000, Bounds.full()).readyAt(0, 1), 20000);
        CountedStudio never = Bounds.at(20000, Bounds.full());
        never.plan(0, 0);
        same("not now, at 20000", never.readyAt(0, 500), -1);
        CountedStudio stuck = Bounds.loaded("recipe 1 0 0 3 0 0 1;object 1 1 1;");
        stuck.plan(0, 0);
        same("not approved", stuck.readyAt(0, 500), -1);
        says("Throws IndexOutOfBoundsException if there is no such object");
        Bounds.objectNumbers((x, object) -> x.readyAt(object, 1));
        says("Throws IllegalArgumentException if hours is out of range");
        Bounds.range(1, 500, (x, hours) -> x.readyAt(0, hours));
    }

    private static void scoreIn() {
        promise(44);
        says("Forecasts the SCORE of an object after some hours, if nothing else is done (at the time 20000 at the latest)."
                + " - object: number of an object - hours: 1 to 500 Returns the score.");
        int[] due = {200, 200, 205, 204, 203, 203};
        for (int k = 0; k < due.length; k++) {
            int hours = k + 1;
            Bounds.asked("after " + hours, LaterBounds::waiting, due[k], s -> s.scoreIn(1, hours));
        }
        same("after 500", waiting().scoreIn(1, 500), 203);
        same("back behind 500", lent(1, 500).scoreIn(0, 500), 80);
        same("not behind 499", lent(1, 500).scoreIn(0, 499), 100);
        same("back behind 1", lent(1, 1).scoreIn(0, 1), 80);
        same("at 20000", lent(19500, 500).scoreIn(0, 500), 80);
        same("behind 20000", lent(19501, 500).scoreIn(0, 500), 100);
        same("in the last hour", lent(19999, 1).scoreIn(0, 1), 80);
        same("no hour is left", lent(20000, 1).scoreIn(0, 1), 100);
        same("not 500 either", lent(20000, 1).scoreIn(0, 500), 100);
        same("the last object", Bounds.full().scoreIn(15, 500), 500);
        says("Throws IndexOutOfBoundsException if there is no such object");
        Bounds.objectNumbers((x, object) -> x.scoreIn(object, 1));
        says("Throws IllegalArgumentException if hours is out of range");
        Bounds.range(1, 500, (x, hours) -> x.scoreIn(0, hours));
    }

    private static void lentIn() {
        promise(45);
        says("Forecasts the objects that are lent after some hours, likewise. - hours: 1 to 500 Returns the set, bit k for object k.");
        same("no objects", new CountedStudio().lentIn(500), 0);
        Bounds.asked("none", Bounds::full, 0, s -> s.lentIn(500));
        Bounds.asked("as now", Bounds::busy, 8, s -> s.lentIn(1));
        // 1 is lent at 290 and back in the hour 295, 4 needs no more than its queue; hours from 13 on
        Bounds.asked("at the DUE of 1", Bounds::busy, 2, s -> s.lentIn(278));
        Bounds.asked("an hour ahead", Bounds::busy, 0, s -> s.lentIn(277));
        CountedStudio s = Bounds.full();
        for (int object = 0; object < 16; object++) s.lend(object, object, 0, 500);
        for (int hours = 1; hours <= 16; hours++) same("after " + hours, s.lentIn(hours), (1 << hours) - 1);
        same("all after 500", s.lentIn(500), 65535);
        s.tick(1);
        same("the first is back behind 500", s.lentIn(500), 65534);
        same("not behind 499", s.lentIn(499), 65535);
        CountedStudio last = Bounds.at(19999, Bounds.full());
        last.lend(15, 19999, 0, 1);
        last.lend(14, 20000, 0, 1);
        same("in the last hour", last.lentIn(1), 1 << 15);
        same("and no more hours", last.lentIn(500), 1 << 15);
        last.tick(1);
        same("no hour goes by at 20000", last.lentIn(500), 1 << 15);
        says("Throws IllegalArgumentException if hours is out of range");
        Bounds.range(1, 500, (x, hours) -> x.lentIn(hours));
    }

    private static CountedStudio working(int benches, int objects, int work) {
        CountedStudio s = Bounds.loaded("benches " + benches + ";recipe " + work + " 0 0 0 0 0 1;" + "object 1 1 0;".repeat(objects));
        for (int object = 0; object < objects; object++) s.plan(object, 0);
        return s;
    }

    private static void bestBenches() {
        promise(46);
        says("Forecasts for which benches (1 to 4, in place of the present number, as if benches came or went now; a step at a bench goes on)"
                + " most steps are done within some hours.");
        for (int benches = 1; benches <= 4; benches++) {
            for (int objects = 1; objects <= 6; objects++) {
                int number = benches;
                int most = objects;
                Bounds.asked(objects + " objects", () -> working(number, most, 2), Math.min(4, objects), s -> s.bestBenches(3));
            }
        }
        // 0 and 1 are at two benches, until the hours 2 and 5; 2 waits for a bench and works for 2 hours
        CountedStudio s = Bounds.loaded("benches 2;recipe 2 0 0 0 0 0 1;recipe 5 0 0 0 0 0 1;object 1 1 0;object 1 1 0;object 1 1 0;");
        s.plan(0, 0);
        s.plan(1, 1);
        s.plan(2, 0);
        s.tick(1);
        int[] due = {1, 1, 3, 2, 2, 2, 1, 1};
        for (int hours = 1; hours <= 8; hours++) same("within " + hours, s.bestBenches(hours), due[hours - 1]);
        CountedStudio four = working(4, 4, 9);
        four.tick(1);
        for (int object = 0; object < 4; object++) four.plan(object, 0);
        same("four at benches go on with one", four.bestBenches(9), 1);
        // with one bench the second steps begin one by one from the hour 9 on
        same("then one of the next is done", four.bestBenches(18), 4);

        says("(No hour goes by from the time 20000 on.)");
        same("at 20000", Bounds.at(20000, working(1, 4, 40)).bestBenches(200), 1);
        for (int time = 19998; time <= 19999; time++) {
            CountedStudio late = Bounds.at(time, Bounds.full());
            for (int object = 0; object < 3; object++) late.plan(object, 0);
            same("from " + time, late.bestBenches(200), time == 19998 ? 3 : 1);
        }
        says("- hours: 1 to 200 Returns the least such number of benches.");
        same("nothing to do", Bounds.full().bestBenches(200), 1);
        same("no objects", new CountedStudio().bestBenches(1), 1);
        same("too short for any", working(1, 4, 2).bestBenches(2), 1);
        same("two in three hours", working(4, 2, 2).bestBenches(3), 2);
        same("two in five hours", working(4, 2, 2).bestBenches(5), 1);
        same("in 200 hours", working(4, 5, 40).bestBenches(200), 2);
        // four steps of 40 hours are done in the hours 40, 80, 120 and 160, the fifth in 200: it needs 201
        same("in 199 hours", working(4, 4, 40).bestBenches(199), 1);
        same("in 161 hours", working(4, 4, 40).bestBenches(161), 1);
        same("in 160 hours", working(4, 4, 40).bestBenches(160), 2);
        says("Throws IllegalArgumentException if hours is out of range");
        Bounds.range(1, 200, (x, hours) -> x.bestBenches(hours));
    }

    private static void quietAt() {
        promise(47);
        says("Forecasts the time at which first no object is in the states 1 to 3 and none can begin a step, likewise."
                + " - hours: 1 to 500, how many hours are looked at Returns the time (the present one if it is so now);");
        same("no objects", new CountedStudio().quietAt(1), 0);
        Bounds.asked("now", Bounds::full, 0, s -> s.quietAt(1));
        Bounds.asked("at work, waiting and curing", LaterBounds::waiting, 8, s -> s.quietAt(500));
        CountedStudio none = lent(1, 500);
        same("lent is quiet", none.quietAt(1), 1);
        none.plan(0, 0);
        same("what is lent cannot begin", none.quietAt(1), 1);
        for (int state = 1; state <= 3; state++) {
            CountedStudio s = waiting();
            s.tick(state == 1 ? 1 : 4);
            if (state == 2) same("0 cures, 1 waits", s.objectsIn(2) + s.objectsIn(3), 3);
            same("in the state " + state, s.quietAt(500), 8);
        }
        CountedStudio begins = Bounds.loaded("recipe 1 0 0 0 0 0 1;object 1 1 0;");
        begins.plan(0, 0);
        same("one can begin", begins.quietAt(500), 2);
        CountedStudio cannot = Bounds.loaded("recipe 1 0 0 3 0 0 1;recipe 1 1 1 0 0 0 1;object 1 1 1;object 1 1 0;");
        cannot.plan(0, 0);
        cannot.plan(1, 1);
        same("neither can begin", cannot.quietAt(1), 0);
        cannot.approve(0);
        same("one can", cannot.quietAt(500), 2);

        says("NONE if it is not so within these hours.");
        same("just within", waiting().quietAt(8), 8);
        same("an hour too early", waiting().quietAt(7), -1);
        same("one hour", waiting().quietAt(1), -1);
        for (int work = 18; work <= 20; work++) {
            CountedStudio s = Bounds.loaded("recipe 40 200 0 0 0 0 1;recipe " + work + " 0 0 0 0 0 1;object 1 1 0;");
            s.plan(0, 0);
            s.plan(0, 0);
            s.plan(0, 1);
            // at work or curing in the hours 0 to 240, 240 to 480 and 480 to 480 + work
            same("500 hours", s.quietAt(500), work == 20 ? -1 : 481 + work);
            same("499 hours", s.quietAt(499), work == 18 ? 499 : -1);
        }
        for (int from = 19998; from <= 19999; from++) {
            CountedStudio late = Bounds.at(from, Bounds.loaded("recipe 1 0 0 0 0 0 1;object 1 1 0;"));
            late.plan(0, 0);
            same("from " + from, late.quietAt(500), from == 19998 ? 20000 : -1);
        }
        same("now, at 20000", Bounds.at(20000, Bounds.full()).quietAt(500), 20000);
        CountedStudio late = Bounds.at(20000, Bounds.full());
        late.plan(0, 0);
        same("not now, at 20000", late.quietAt(500), -1);
        says("Throws IllegalArgumentException if hours is out of range");
        Bounds.range(1, 500, (x, hours) -> x.quietAt(hours));
    }

    private static void lateness() {
        promise(48);
        says("Tells by how many hours the loan of an object that waits is late now. - object: number of an object"
                + " Returns the time minus DUE, but at least 0; NONE if no loan waits.");
        CountedStudio s = Bounds.full();
        same("no loan", s.lateness(15), -1);
        s.lend(15, 3, 1000, 1);
        int[] due = {0, 0, 0, 0, 1, 2};
        for (int time = 0; time < due.length; time++) {
            same("at " + time, s.lateness(15), due[time]);
            s.tick(1);
        }
        s.recall(15);
        same("no loan again", s.lateness(15), -1);
        Bounds.asked("far ahead", Bounds::busy, 0, x -> x.lateness(4));
        Bounds.asked("lent already", Bounds::busy, -1, x -> x.lateness(3));
        CountedStudio late = Bounds.at(20000, Bounds.full());
        late.lend(0, 0, 0, 1);
        late.lend(1, 20000, 0, 1);
        late.lend(2, 19999, 0, 1);
        same("as late as can be", late.lateness(0), 20000);
        same("at its DUE", late.lateness(1), 0);
        same("by one", late.lateness(2), 1);
        says("Throws IndexOutOfBoundsException if there is no such object");
        Bounds.objectNumbers((x, object) -> x.lateness(object));
    }

    private static void urgentLoans() {
        promise(49);
        says("Finds the object with the least URGENCY of those for which a loan waits. Returns the object, of several the lowest one; NONE if no loan waits.");
        same("no objects", new CountedStudio().mostUrgent(), -1);
        CountedStudio s = Bounds.full();
        same("no loan", s.mostUrgent(), -1);
        s.lend(15, 20000, 1000, 1);
        same("only one", s.mostUrgent(), 15);
        s.lend(14, 20000, 1000, 1);
        same("the lowest of two", s.mostUrgent(), 14);
        s.lend(13, 20000, 1000, 1);
        s.recall(13);
        same("not one that was taken back", s.mostUrgent(), 14);
        s.recall(15);
        s.lend(15, 19999, 1000, 1);
        same("less by one", s.mostUrgent(), 15);
        s.lend(7, 0, 1000, 1);
        same("0", s.mostUrgent(), 7);
        Bounds.asked("busy", Bounds::busy, 1, x -> x.mostUrgent());
        CountedStudio lent = Bounds.full();
        lent.lend(0, 0, 0, 9);
        lent.lend(1, 5, 1000, 9);
        lent.tick(1);
        same("one that is lent does not wait", lent.mostUrgent(), 1);
    }

    private static void waitingLoan() {
        promise(50);
        says("Returns the k-th object in the order of the loans that wait: by DUEs, then by numbers. - k: from 0 Returns the object; NONE if there are not so many.");
        Bounds.properties(new CountedStudio(), (x, k) -> x.waitingLoan(k));
        Bounds.properties(Bounds.full(), (x, k) -> x.waitingLoan(k));
        Bounds.properties(Bounds.busy(), (x, k) -> x.waitingLoan(k), 1, 4);
        CountedStudio s = Bounds.full();
        int[] dues = {5, 20000, 0, 5, 7, 20000, 0, 19999, 5, 6, 4, 3, 2, 1, 1, 0};
        for (int object = 0; object < 16; object++) s.lend(object, dues[object], 1000, 1);
        Bounds.properties(s, (x, k) -> x.waitingLoan(k), 2, 6, 15, 13, 14, 12, 11, 10, 0, 3, 8, 9, 4, 7, 1, 5);
        s.recall(2);
        s.recall(5);
        Bounds.properties(s, (x, k) -> x.waitingLoan(k), 6, 15, 13, 14, 12, 11, 10, 0, 3, 8, 9, 4, 7, 1);
    }

    private static void counts() {
        promise(51);
        says("Counts the steps by a recipe that are done since load(). - recipe: number of a recipe Returns the number.");
        same("none", Bounds.full().uses(9), 0);
        int[] uses = {3, 0, 0};
        for (int k = 0; k < 3; k++) {
            int recipe = k;
            Bounds.asked("recipe " + k, Bounds::busy, uses[k], s -> s.uses(recipe));
        }
        CountedStudio s = Bounds.full();
        s.plan(0, 9);
        s.tick(1);
        same("not done yet", s.uses(9), 0);
        s.tick(1);
        same("done", s.uses(9), 1);
        same("more than records are kept", HourBounds.withRecords(207).uses(0), 207);
        s.undo();
        same("undone", s.uses(9), 0);
        CountedStudio again = HourBounds.withRecords(3);
        Check.input(again, "recipe 1 0 0 0 0 0 1;");
        again.load();
        same("since load()", again.uses(0), 0);
        says("Throws IndexOutOfBoundsException if there is no such recipe");
        Bounds.recipeNumbers((x, recipe) -> x.uses(recipe));

        promise(52);
        says("Counts how often an object came into a press since load(). - press: number of a press Returns the number.");
        same("none", Bounds.full().pressUse(5), 0);
        Bounds.asked("two", Bounds::busy, 2, x -> x.pressUse(0));
        CountedStudio press = waiting();
        int[] due = {0, 0, 1, 1, 1, 2, 2};
        for (int time = 0; time < due.length; time++) {
            same("at " + time, press.pressUse(0), due[time]);
            press.tick(1);
        }
        Check.input(press, "press 1;");
        press.load();
        same("since load()", press.pressUse(0), 0);
        says("Throws IndexOutOfBoundsException if there is no such press");
        Bounds.pressNumbers((x, number) -> x.pressUse(number));

        promise(53);
        says("Counts how often a recipe stands in the queues of all objects. - recipe: number of a recipe Returns the number.");
        CountedStudio queues = Bounds.full();
        same("none", queues.inQueues(9), 0);
        for (int object = 0; object < 16; object++) {
            for (int n = 0; n < 8; n++) queues.plan(object, 9);
        }
        same("all queues are full", queues.inQueues(9), 128);
        same("of another", queues.inQueues(8), 0);
        queues.tick(1);
        same("what goes on stands in none", queues.inQueues(9), 127);
        queues.clearQueue(15);
        queues.cancel(14);
        same("less nine", queues.inQueues(9), 118);
        int[] stand = {1, 1, 1};
        for (int k = 0; k < 3; k++) {
            int recipe = k;
            Bounds.asked("recipe " + k, Bounds::busy, stand[k], x -> x.inQueues(recipe));
        }
        says("Throws IndexOutOfBoundsException if there is no such recipe");
        Bounds.recipeNumbers((x, recipe) -> x.inQueues(recipe));
    }

    private static void dryIn() {
        promise(54);
        says("Returns in how many hours a press is free. - press: number of a press Returns REST of the object in it; 0 if it is free.");
        same("free", Bounds.full().dryIn(5), 0);
        Bounds.asked("busy", Bounds::busy, 7, s -> s.dryIn(0));
        CountedStudio s = waiting();
        int[] due = {0, 0, 3, 2, 1, 3, 2, 1, 0, 0};
        for (int time = 0; time < due.length; time++) {
            same("at " + time, s.dryIn(0), due[time]);
            s.tick(1);
        }
        CountedStudio greatest = Bounds.loaded("press 9;press 1;recipe 1 200 1 0 0 0 1;object 1 1 0;");
        greatest.plan(0, 0);
        greatest.tick(2);
        same("greatest", greatest.dryIn(1), 200);
        same("the other", greatest.dryIn(0), 0);
        says("Throws IndexOutOfBoundsException if there is no such press");
        Bounds.pressNumbers((x, press) -> x.dryIn(press));
    }

    private static void ranks() {
        promise(55);
        says("Returns the rank of an object by SCOREs. - object: number of an object Returns how many objects have a lesser SCORE.");
        same("all the same", Bounds.full().rank(15), 0);
        int[] due = {4, 3, 2, 1, 0};
        for (int k = 0; k < 5; k++) {
            int object = k;
            Bounds.asked("object " + k, Bounds::busy, due[k], s -> s.rank(object));
        }
        CountedStudio s = Bounds.loaded("object 1 1000 0;" + "object 1 999 0;".repeat(14) + "object 1 0 0;");
        same("the best of sixteen", s.rank(0), 15);
        same("those between", s.rank(1), 1);
        same("the same", s.rank(14), 1);
        same("the worst", s.rank(15), 0);
        same("the only one", Bounds.loaded("object 1 1000 0;").rank(0), 0);
        says("Throws IndexOutOfBoundsException if there is no such object");
        Bounds.objectNumbers((x, object) -> x.rank(object));

        promise(56);
        says("Returns the objects whose SCORE is less than a bound. - bound: any number Returns the set, bit k for object k.");
        int[][] sets = {{Bounds.MIN, 0}, {-1, 0}, {0, 0}, {1, 32768}, {999, 32768}, {1000, 65534}, {1001, 65535}, {Bounds.MAX, 65535}};
        for (int[] set : sets) same("bound " + set[0], s.below(set[0]), set[1]);
        same("no objects", new CountedStudio().below(Bounds.MAX), 0);
        Bounds.asked("busy", Bounds::busy, 30, x -> x.below(519));
        Bounds.asked("and one", Bounds::busy, 31, x -> x.below(520));
    }

    private static void objectsIn() {
        promise(57);
        says("Returns the objects in a state. - state: 0 to 4 Returns the set, bit k for object k.");
        int[] sets = {16, 4, 1, 2, 8};
        for (int k = 0; k <= 4; k++) {
            int state = k;
            Bounds.asked("state " + k, Bounds::busy, sets[k], s -> s.objectsIn(state));
            same("no objects in " + k, new CountedStudio().objectsIn(k), 0);
            same("all sixteen in 0, in " + k, Bounds.full().objectsIn(k), k == 0 ? 65535 : 0);
        }
        CountedStudio s = Bounds.full();
        s.lend(15, 0, 0, 1);
        s.tick(1);
        same("the last one", s.objectsIn(4), 32768);
        same("all but the last one", s.objectsIn(0), 32767);
        says("Throws IllegalArgumentException if state is out of range");
        Bounds.range(0, 4, (x, state) -> x.objectsIn(state));
    }

    private static void meanScore() {
        promise(58);
        says("Returns the mean SCORE. Returns the sum of all SCOREs divided by the number of objects, both converted to double.");
        same("one", Bounds.loaded("object 1 1000 0;").meanScore(), 1000.0);
        same("0", Bounds.loaded("object 1 0 0;".repeat(16)).meanScore(), 0.0);
        same("greatest", Bounds.loaded("object 1 1000 0;".repeat(16)).meanScore(), 1000.0);
        same("not whole", Bounds.loaded("object 1 1 0;object 1 0 0;object 1 0 0;").meanScore(), 1.0 / 3.0);
        same("a sixteenth", Bounds.loaded("object 1 1 0;" + "object 1 0 0;".repeat(15)).meanScore(), 0.0625);
        Bounds.asked("busy", Bounds::busy, 1502.0 / 5.0, CountedStudio::meanScore);
        says("Throws ArithmeticException if there are no objects");
        Bounds.refused("a new one", CountedStudio::new, Bounds.TOO_GREAT, CountedStudio::meanScore);
        Bounds.refused("no more", () -> Bounds.loaded("press 1;"), Bounds.TOO_GREAT, CountedStudio::meanScore);
    }

    private static String output(CountedStudio s) {
        StringBuilder text = new StringBuilder();
        for (int at = 0; s.outputByte(at) >= 0; at++) text.append((char) s.outputByte(at));
        return text.toString();
    }

    private static void write() {
        promise(59);
        says("Writes the queue of an object to the output, in place of what was there: for each recipe its number,"
                + " behind it an exclamation mark if the step needs an approval, with commas between them. - object: number of an object Returns the number of bytes.");
        CountedStudio s = Bounds.loaded("recipe 1 0 0 0 0 0 1;recipe 1 0 0 3 0 0 1;recipe 1 0 0 2 0 0 1;" + "recipe 1 0 0 3 0 0 1;".repeat(7)
                + "object 1 1 0;object 1 1 1;object 1 1 3;");
        same("an empty queue", s.write(0), 0);
        same("nothing", output(s), "");
        s.plan(1, 0);
        same("one", s.write(1), 1);
        same("its number", output(s), "0");
        s.plan(1, 1);
        s.plan(1, 2);
        s.plan(1, 9);
        same("four", s.write(1), 9);
        same("4 needs an approval, 3 does not", output(s), "0,1!,2,9!");
        s.plan(0, 1);
        same("3 and 0", s.write(0), 1);
        same("needs none", output(s), "1");
        for (int n = 2; n <= 9; n++) s.plan(2, n);
        same("as long as can be", s.write(2), 23);
        same("eight", output(s), "2!,3!,4!,5!,6!,7!,8!,9!");
        same("shorter again", s.write(1), 9);
        same("in place of it", output(s), "0,1!,2,9!");
        s.clearQueue(1);
        same("an empty queue again", s.write(1), 0);
        same("nothing is left", output(s), "");
        CountedStudio busy = Bounds.busy();
        java.util.List<String> before = Look.state(busy);
        same("what goes on is not in it", busy.write(2), 0);
        same("with an approval", busy.write(4), 4);
        same("the mark stays", output(busy), "2!,1");
        same("nothing else is different", Look.difference(Look.state(busy), before), "the same");
        says("Throws IndexOutOfBoundsException if there is no such object");
        Bounds.objectNumbers((x, object) -> x.write(object));
    }

    private static void outputByte() {
        promise(60);
        says("Returns a byte of the output. - index: from 0 Returns the byte; NONE if there is no such byte.");
        Bounds.properties(new CountedStudio(), (x, index) -> x.outputByte(index));
        Bounds.properties(Bounds.busy(), (x, index) -> x.outputByte(index), 50, 33, 44, 49);
        CountedStudio s = Bounds.loaded("recipe 1 0 0 3 0 0 1;".repeat(10) + "object 1 1 1;object 1 1 1;");
        for (int n = 0; n < 8; n++) s.plan(0, n + 2);
        s.write(0);
        Bounds.properties(s, (x, index) -> x.outputByte(index), 50, 33, 44, 51, 33, 44, 52, 33, 44, 53, 33, 44, 54, 33, 44, 55, 33, 44, 56, 33, 44, 57, 33);
        s.write(1);
        Bounds.properties(s, (x, index) -> x.outputByte(index));
    }

    /** A script fails at its command, and the studio is as if only those ahead of it had been called. */
    private static void fails(Bounds.Maker maker, String ahead, String command) {
        int done = ahead.length() - ahead.replace(";", "").length();
        CountedStudio s = maker.make();
        Check.input(s, ahead + command + "tick 1;plan 0 0;");
        same(ahead + command, s.play(), done);
        same("no error of the text", s.errorCode() + s.errorPosition(), -1);
        same("the buffer is empty", Look.bufferLength(s), 0);
        CountedStudio spared = maker.make();
        Check.input(spared, ahead);
        same(ahead, spared.play(), done);
        same("what was done stays done: " + ahead + command, Look.difference(Look.further(s), Look.further(spared)), "the same");
    }

    private static void play() {
        promise(61);
        says("Reads a script from the input buffer and does it. A command fails if its method throws an exception or returns an error code;"
                + " then the script ends, and what was done stays done.");
        for (String ahead : new String[] {"", "tick 2;", "plan 1 0;plan 1 1;cancel 1;tick 1;"}) {
            for (String command : new String[] {"plan 5 0;", "plan 15 9;", "plan 0 3;", "cancel 5;", "cancel 15;", "cancel 2;", "approve 5;", "approve 2;",
                "approve 1;", "lend 5 0 0 1;", "lend 15 0 0 1;", "lend 4 9 9 9;", "recall 5;", "recall 0;"}) {
                fails(Bounds::busy, ahead, command);
            }
            if (!ahead.isEmpty()) fails(() -> Bounds.at(19999, Bounds.full()), "plan 1 0;cancel 1;", "tick 2;");
        }
        fails(TextBounds::fullQueue, "plan 1 0;", "plan 0 0;");
        fails(TextBounds::fullQueue, "plan 1 0;", "approve 0;");
        fails(CountedStudio::new, "tick 1;", "plan 0 0;");
        fails(CountedStudio::new, "", "cancel 0;");

        says("Returns the number of commands that were done, the one that failed not included;");
        for (int length : new int[] {0, 1, 2, 39, 40}) {
            CountedStudio s = Bounds.full();
            Check.input(s, "tick 1;".repeat(length));
            same("all of " + length, s.play(), length);
            same("hours", s.count(4), length);
            same("each can be undone", s.count(12), Math.min(10, length));
        }
        CountedStudio last = Bounds.full();
        Check.input(last, "tick 1;".repeat(39) + "recall 0;");
        same("the fortieth fails", last.play(), 39);
        Check.input(last, "recall 0;" + "tick 1;".repeat(39));
        same("the first fails", last.play(), 0);

        says("TEXT_ERROR if the text has an error (then only the buffer and the error change).");
        for (String text : new String[] {"?", "tick 1;plan 0 0;tick", "tick 1;".repeat(41), "tick 1;tick 1001;", "plan 0 0;plan 16 0;", "tick 1;life 5;"}) {
            CountedStudio s = Bounds.busy();
            CountedStudio spared = Bounds.busy();
            Check.input(s, text);
            same(text, s.play(), -3);
            same("a buffer", Look.bufferLength(s), 0);
            same("an error", s.errorCode() > 0 && s.errorPosition() >= 0, true);
            Check.input(spared, "?");
            spared.load();
            same("all else", Look.difference(Look.state(s), Look.state(spared)), "the same");
            same("the output", output(s), "2!,1");
            for (int n = 0; n < 11; n++) same("undo", s.undo(), spared.undo());
            same("undone", Look.difference(Look.state(s), Look.state(spared)), "the same");
            same("snapshots are there", s.restoreSnapshot(0) && s.restoreSnapshot(1), true);
        }
    }

    private static void undo() {
        promise(62);
        says("Undoes the latest call that can be undone. Returns the number of calls that can still be undone; NONE if there is none.");
        Bounds.refused("a new one", CountedStudio::new, -1, s -> s.undo());
        Bounds.refused("nothing was called", Bounds::full, -1, s -> s.undo());
        for (int calls = 1; calls <= 12; calls++) {
            CountedStudio s = Bounds.full();
            for (int n = 0; n < calls; n++) s.plan(n, n % 10);
            int kept = Math.min(10, calls);
            for (int n = kept - 1; n >= 0; n--) {
                same("of " + calls, s.undo(), n);
                same("queue of the latest", s.object(calls - kept + n, 5), 0);
                if (calls - kept + n > 0) same("the one ahead of it", s.object(calls - kept + n - 1, 5), 1);
            }
            same("no more of " + calls, s.undo(), -1);
            same("what is older stays", s.objectsWith(0), (1 << (calls - kept)) - 1);
        }
        CountedStudio hundred = HourBounds.withRecords(100);
        hundred.plan(0, 0);
        hundred.tick(2);
        same("the oldest record is pushed out", hundred.record(0, 5), 2);
        hundred.undo();
        same("it is back", hundred.record(0, 5), 1);
        same("the latest is gone", hundred.record(99, 5), 100);
        same("as many as ahead of it", hundred.count(8), 100);
        CountedStudio s = Bounds.busy();
        Check.input(s, "press");
        s.load();
        same("a text that is refused changes nothing of it", s.undo(), 9);
        s.saveSnapshot(0);
        same("nor does a snapshot", s.undo(), 8);
        s.write(4);
        s.truncateInput(0);
        same("nor does the output", s.undo(), 7);
        same("an empty script is none", s.play(), 0);
        same("nor is an empty script", s.undo(), 6);
        s.restoreSnapshot(0);
        same("none behind a snapshot that is restored", s.undo(), -1);
        s.plan(4, 0);
        same("one", s.undo(), 0);
        s.plan(4, 0);
        s.load();
        same("none behind a text that is taken", s.undo(), -1);
    }

    private static int wrapped(CountedStudio s) {
        java.math.BigInteger digest = java.math.BigInteger.ONE;
        java.util.List<Integer> terms = new java.util.ArrayList<>();
        s.looking(true);
        terms.add(s.count(4));
        for (int object = 0; object < s.count(3); object++) {
            terms.add(s.object(object, 1));
            terms.add(s.object(object, 3));
            terms.add(s.object(object, 4));
        }
        s.looking(false);
        for (int term : terms) digest = digest.multiply(java.math.BigInteger.valueOf(31)).add(java.math.BigInteger.valueOf(term));
        return digest.intValue();
    }

    private static void digest() {
        promise(63);
        says("Returns a digest: begin with 1; take 31 times the digest plus the time, then for each object 31 times that plus SCORE,"
                + " then 31 times that plus its state, then 31 times that plus REST (in int arithmetic, overflow wraps). Returns the digest.");
        same("no objects", new CountedStudio().digest(), 31);
        same("no objects at 20000", Bounds.at(20000, new CountedStudio()).digest(), 20031);
        same("one", Bounds.loaded("object 1 0 0;").digest(), 923521);
        same("one with 1000", Bounds.loaded("object 1 1000 0;").digest(), 1884521);
        same("lent for 500 hours", lent(1, 500).digest(), ((32 * 31 + 100) * 31 + 4) * 31 + 500);
        // 923521 * 29791 is 27512614111, which is 6 times two to the 32nd and 1742810335
        same("two: the first overflow", Bounds.loaded("object 1 0 0;object 1 0 0;").digest(), 1742810335);
        CountedStudio[] studios = {Bounds.busy(), Bounds.full(), Bounds.at(20000, Bounds.full()), waiting(), lent(19999, 500)};
        boolean negative = false;
        for (int k = 0; k < studios.length; k++) {
            for (int hour = 0; hour < 9; hour++) {
                same("studio " + k, studios[k].digest(), wrapped(studios[k]));
                negative |= studios[k].digest() < 0;
                studios[k].tick(1);
            }
        }
        same("some are negative", negative, true);
        Bounds.asked("asking changes nothing", Bounds::busy, Bounds.busy().digest(), CountedStudio::digest);
    }

    /** The state but for the number of calls that can be undone. */
    private static java.util.List<String> state(CountedStudio s) {
        java.util.List<String> lines = new java.util.ArrayList<>(Look.state(s));
        lines.removeIf(line -> line.startsWith("count 12:"));
        return lines;
    }

    /** All kinds of things become different. */
    private static void change(CountedStudio s) {
        s.clearQueue(4);
        for (int object = 0; object < 5; object++) {
            s.lend(object, 1, 0, 3);
            s.plan(object, 0);
            s.plan(object, 2);
            s.approve(object);
        }
        s.tick(60);
        s.recall(2);
        s.cancel(3);
    }

    private static void saveSnapshot() {
        promise(64);
        says("Saves a snapshot of everything except the input buffer, the error, the output and the snapshots;");
        for (int place = 0; place <= 1; place++) {
            CountedStudio s = Bounds.busy();
            CountedStudio spared = Bounds.busy();
            same("saved", s.saveSnapshot(place), true);
            same("nothing is different by it", Look.difference(Look.all(s), Look.all(spared)), "the same");
            change(s);
            s.write(3);
            Check.input(s, "life;");
            s.play();
            Check.input(s, "tick 1;");
            String output = output(s);
            same("restored", s.restoreSnapshot(place), true);
            same("everything is back", Look.difference(state(s), state(spared)), "the same");
            same("the buffer is not", Look.bufferLength(s), 7);
            same("the error is not", s.errorPosition(), 0);
            same("the output is not", output(s), output);
            same("the other snapshot is another one", s.restoreSnapshot(1 - place), true);
            same("with its own time", s.count(4), place == 0 ? 13 : 0);
        }

        says("it replaces an earlier one in the same place.");
        CountedStudio s = Bounds.full();
        for (int n = 1; n <= 5; n++) {
            s.tick(1);
            same("saved in 0", s.saveSnapshot(0), true);
            if (n == 3) s.saveSnapshot(1);
        }
        s.tick(1);
        s.restoreSnapshot(0);
        same("the latest of 0", s.count(4), 5);
        s.restoreSnapshot(1);
        same("the only one of 1", s.count(4), 3);
        s.saveSnapshot(0);
        s.tick(9);
        s.restoreSnapshot(0);
        same("an earlier time replaces, too", s.count(4), 3);

        says("- place: 0 or 1 Returns true; false if place is out of range.");
        for (int place = 0; place <= 1; place++) {
            same("place " + place, new CountedStudio().saveSnapshot(place), true);
            same("again " + place, Bounds.busy().saveSnapshot(place), true);
        }
        for (int bad : new int[] {-1, 2, Bounds.MIN, Bounds.MAX}) {
            Bounds.refused("place " + bad, Bounds::busy, false, x -> x.saveSnapshot(bad));
            Bounds.refused("place " + bad + " of a new one", CountedStudio::new, false, x -> x.saveSnapshot(bad));
        }
    }

    private static void restoreSnapshot() {
        promise(65);
        says("Restores a snapshot, which stays;");
        for (int place = 0; place <= 1; place++) {
            CountedStudio s = Bounds.busy();
            CountedStudio spared = Bounds.busy();
            s.saveSnapshot(place);
            for (int turn = 0; turn < 3; turn++) {
                change(s);
                same("restored " + turn, s.restoreSnapshot(place), true);
                same("as it was " + turn, Look.difference(state(s), state(spared)), "the same");
            }
            // what cannot be seen now is back, too: both go on in the same way
            change(s);
            change(spared);
            same("goes on", Look.difference(state(s), state(spared)), "the same");
        }
        CountedStudio records = HourBounds.withRecords(105);
        records.saveSnapshot(0);
        for (int n = 0; n < 30; n++) {
            records.lend(1, 0, 0, 1);
            records.tick(2);
        }
        same("the latest is another one", records.record(99, 0), 1);
        records.restoreSnapshot(0);
        for (int index = 0; index < 100; index++) same("record " + index, records.record(index, 5), index + 6);
        CountedStudio otherwise = Bounds.loaded("recipe 1 0 0 0 1 0 1;object 1 100 0;");
        otherwise.saveSnapshot(1);
        otherwise.plan(0, 0);
        otherwise.lend(0, 30, 77, 9);
        otherwise.tick(9);
        otherwise.saveSnapshot(0);
        otherwise.restoreSnapshot(1);
        otherwise.lend(0, 0, 0, 1);
        otherwise.tick(2);
        same("a record in the place of another one", otherwise.record(0, 1), 2);
        otherwise.lend(0, 20, 1, 2);
        otherwise.restoreSnapshot(0);
        same("that one is back", otherwise.record(0, 1), 0);
        int[] loan = {30, 77, 9};
        for (int what = 0; what < 3; what++) same("number " + what + " of its loan", otherwise.loan(0, what), loan[what]);
        CountedStudio fresh = new CountedStudio();
        fresh.saveSnapshot(1);
        fresh.tick(7);
        same("a new one", fresh.restoreSnapshot(1), true);
        same("is new", Look.difference(Look.all(fresh), Look.all(new CountedStudio())), "the same");

        says("nothing can be undone then.");
        CountedStudio s = Bounds.busy();
        s.saveSnapshot(0);
        s.restoreSnapshot(0);
        same("none of ten", s.count(12), 0);
        same("none", s.undo(), -1);
        s.plan(0, 0);
        same("the next one can be", s.undo(), 0);
        same("and no more", s.undo(), -1);

        says("- place: 0 or 1 Returns true; false if place is out of range or has no snapshot.");
        for (int bad : new int[] {-1, 2, Bounds.MIN, Bounds.MAX}) Bounds.refused("place " + bad, Bounds::busy, false, x -> x.restoreSnapshot(bad));
        for (int k = 0; k <= 1; k++) {
            int place = k;
            Bounds.refused("none in " + k, CountedStudio::new, false, x -> x.restoreSnapshot(place));
            Bounds.refused("only in the other of " + k, () -> {
                CountedStudio one = Bounds.full();
                one.saveSnapshot(1 - place);
                one.plan(0, 0);
                return one;
            }, false, x -> x.restoreSnapshot(place));
            CountedStudio loaded = Bounds.busy();
            Check.input(loaded, "press 5;");
            loaded.load();
            same("gone by load() in " + k, loaded.restoreSnapshot(place), false);
            same("nothing is different by it", loaded.press(0, 0), 5);
            CountedStudio refused = Bounds.busy();
            Check.input(refused, "press;");
            refused.load();
            same("not gone by a text that is refused in " + k, refused.restoreSnapshot(place), true);
        }
    }
}
