/** The bounds of the promises 21 to 42: reasons, what recipes would do, bills and records. */
final class AskBounds {
    private AskBounds() {
    }

    private static void says(String words) {
        Sentences.says(words);
    }

    private static void same(String what, Object got, Object due) {
        Bounds.same(what, got, due);
    }

    private static void promise(int number) {
        Sentences.open("Promise " + number);
    }

    static void all() {
        reason();
        cause();
        objectsWith();
        next();
        approvals();
        pressFor();
        scoreAfter();
        scoreAhead();
        bestRecipe();
        stepsTo();
        quickestTo();
        cheapestTo();
        hoursAhead();
        bills();
        billAhead();
        record();
        recordsOf();
        latestRecord();
        lost();
        recorded();
    }

    /** Object k has the reason k + 1, of six objects. */
    private static CountedStudio reasons() {
        CountedStudio s = Bounds.loaded("life 1;press 5;recipe 9 0 0 0 0 0 1;recipe 1 1 1 0 0 0 1;recipe 1 0 0 3 0 0 1;"
                + "object 1 1 0;object 1 1 0;object 6 1 0;object 1 1 1;object 1 1 1;object 1 1 0;");
        s.plan(0, 0);
        s.lend(0, 0, 1000, 1);
        s.plan(2, 1);
        s.plan(3, 2);
        s.plan(4, 2);
        s.approve(4);
        s.plan(5, 0);
        s.tick(1);
        return s;
    }

    private static void reason() {
        promise(21);
        says("Tells why an object cannot begin a step now. - object: number of an object Returns the reason; 0 if it can begin.");
        for (int k = 0; k < 6; k++) {
            int object = k;
            Bounds.asked("object " + k, AskBounds::reasons, k + 1, s -> s.reason(object));
        }
        Bounds.asked("can begin", Bounds::busy, 0, s -> s.reason(4));
        CountedStudio s = Bounds.full();
        same("the last object", s.reason(15), 2);
        s.plan(15, 9);
        same("can begin then", s.reason(15), 0);
        says("Throws IndexOutOfBoundsException if there is no such object");
        Bounds.objectNumbers((x, object) -> x.reason(object));
    }

    private static void cause() {
        promise(22);
        says("Returns the cause of this reason. - object: number of an object Returns the cause; NONE if the reason has none, or there is no reason.");
        int[] causes = {1, -1, 5, -1, 1, -1};
        for (int k = 0; k < 6; k++) {
            int object = k;
            Bounds.asked("object " + k, AskBounds::reasons, causes[k], s -> s.cause(object));
        }
        Bounds.asked("no reason", Bounds::busy, -1, s -> s.cause(4));
        says("Throws IndexOutOfBoundsException if there is no such object");
        Bounds.objectNumbers((x, object) -> x.cause(object));
    }

    private static void objectsWith() {
        promise(23);
        says("Returns the objects with a reason. - reason: 0 to 6 (0: that can begin) Returns the set, bit k for object k.");
        for (int reason = 1; reason <= 6; reason++) {
            int number = reason;
            Bounds.asked("with " + reason, AskBounds::reasons, 1 << (reason - 1), s -> s.objectsWith(number));
        }
        Bounds.asked("none can begin", AskBounds::reasons, 0, s -> s.objectsWith(0));
        CountedStudio s = Bounds.full();
        same("all sixteen", s.objectsWith(2), 65535);
        for (int object = 0; object < 16; object++) s.plan(object, 0);
        same("all sixteen can begin", s.objectsWith(0), 65535);
        s.tick(1);
        same("one begins", s.objectsWith(1), 1);
        same("none can begin then", s.objectsWith(0), 0);
        same("for there is no bench", s.objectsWith(6), 65534);
        same("no objects", new CountedStudio().objectsWith(2), 0);
        says("Throws IllegalArgumentException if reason is out of range");
        Bounds.range(0, 6, (x, reason) -> x.objectsWith(reason));
    }

    private static void next() {
        promise(24);
        says("Returns the object that would begin first now. Returns the object; NONE if none can begin.");
        same("no objects", new CountedStudio().next(), -1);
        Bounds.asked("none of six", AskBounds::reasons, -1, s -> s.next());
        Bounds.asked("the only one", Bounds::busy, 4, s -> s.next());
        CountedStudio s = Bounds.full();
        same("empty queues", s.next(), -1);
        s.plan(15, 0);
        same("the last", s.next(), 15);
        s.plan(14, 0);
        same("the lowest of two", s.next(), 14);
        s.lend(15, 20000, 1000, 1);
        same("the last DUE is more urgent than none", s.next(), 15);
        s.lend(14, 19999, 1000, 1);
        same("by one", s.next(), 14);
        s.lend(0, 0, 1000, 1);
        same("0 cannot begin", s.next(), 14);
        s.tick(1);
        same("it began", s.objectsIn(1), 1 << 14);
        same("no bench", s.next(), -1);
    }

    private static void approvals() {
        promise(25);
        says("Tells whether a step of an object by a recipe needs an approval. - object: number of an object - recipe: number of a recipe Returns true if so.");
        CountedStudio s = Bounds.loaded("recipe 1 0 0 0 0 0 1;recipe 1 0 0 1 0 0 1;recipe 1 0 0 2 0 0 1;recipe 1 0 0 3 0 0 1;"
                + "object 1 1 0;object 1 1 1;object 1 1 2;object 1 1 3;");
        boolean[][] due = {{false, false, false, false}, {false, false, false, true}, {false, false, true, true}, {false, true, true, true}};
        for (int guard = 0; guard <= 3; guard++) {
            for (int level = 0; level <= 3; level++) same(guard + " and " + level, s.needsApproval(guard, level), due[guard][level]);
        }
        Bounds.asked("also if there is one", Bounds::busy, true, x -> x.needsApproval(4, 2));
        says("Throws IndexOutOfBoundsException if there is no such object or recipe");
        Bounds.objectNumbers((x, object) -> x.needsApproval(object, 0));
        Bounds.recipeNumbers((x, recipe) -> x.needsApproval(0, recipe));

        promise(26);
        says("Counts the steps in the queue of an object that need an approval. - object: number of an object Returns the number.");
        same("an empty queue", s.approvalsAhead(3), 0);
        for (int n = 0; n < 8; n++) {
            s.plan(3, 1);
            same("all of them", s.approvalsAhead(3), n + 1);
            s.plan(0, 3);
            same("3 and 0 need none", s.approvalsAhead(0), 0);
            s.plan(1, n % 2 == 0 ? 2 : 3);
            same("every second one", s.approvalsAhead(1), (n + 1) / 2);
        }
        Bounds.asked("an approval does not count", Bounds::busy, 1, x -> x.approvalsAhead(4));
        says("Throws IndexOutOfBoundsException if there is no such object");
        Bounds.objectNumbers((x, object) -> x.approvalsAhead(object));
    }

    private static void pressFor() {
        promise(27);
        says("Returns the press that would take an object if all presses were free. - object: number of an object Returns the press; NONE if all are too small.");
        CountedStudio s = Bounds.loaded("press 50;press 20;press 100;press 20;press 99;press 50;object 1 1 0;object 20 1 0;object 21 1 0;object 50 1 0;"
                + "object 51 1 0;object 99 1 0;object 100 1 0;");
        int[] due = {1, 1, 0, 0, 4, 4, 2};
        for (int object = 0; object < due.length; object++) same("object " + object, s.pressFor(object), due[object]);
        CountedStudio small = Bounds.loaded("press 49;press 50;object 50 1 0;object 51 1 0;object 100 1 0;");
        same("as great", small.pressFor(0), 1);
        same("too small by one", small.pressFor(1), -1);
        same("too small", small.pressFor(2), -1);
        same("no presses", Bounds.loaded("object 1 1 0;").pressFor(0), -1);
        Bounds.asked("taken by another", Bounds::busy, 0, x -> x.pressFor(0));
        Bounds.asked("taken by itself", Bounds::busy, 0, x -> x.pressFor(1));
        says("Throws IndexOutOfBoundsException if there is no such object");
        Bounds.objectNumbers((x, object) -> x.pressFor(object));
    }

    private static void scoreAfter() {
        promise(28);
        says("Returns the SCORE of an object behind a step by a recipe, as if it were done now. - object: number of an object - recipe: number of a recipe"
                + " Returns the score.");
        int[][] growths = {{0, 0, 0, 0}, {500, 100, 0, 1000}, {100, 0, 899, 999}, {100, 0, 900, 1000}, {100, 0, 901, 1000}, {0, 100, 0, 1000},
            {0, 99, 999, 999}, {0, 1, 900, 901}, {0, 1, 901, 901}, {500, 0, 1000, 1000}, {1, 0, 999, 1000}, {0, 33, 995, 996}, {7, 33, 1, 337}};
        for (int[] growth : growths) {
            CountedStudio s = Bounds.loaded("recipe 1 0 0 0 " + growth[0] + " " + growth[1] + " 1;object 1 " + growth[2] + " 0;");
            same("BASE " + growth[0] + ", RATE " + growth[1] + ", SCORE " + growth[2], s.scoreAfter(0, 0), growth[3]);
            same("it is not done", s.object(0, 1), growth[2]);
        }
        Bounds.asked("at a bench", Bounds::busy, 310, s -> s.scoreAfter(2, 0));
        Bounds.asked("without approval or press", Bounds::busy, 150, s -> s.scoreAfter(4, 2));
        says("Throws IndexOutOfBoundsException if there is no such object or recipe");
        Bounds.objectNumbers((x, object) -> x.scoreAfter(object, 0));
        Bounds.recipeNumbers((x, recipe) -> x.scoreAfter(0, recipe));
    }

    private static void scoreAhead() {
        promise(29);
        says("Returns the SCORE of an object behind all recipes of its queue, as if they were done now one behind the other (nothing is lost in between)."
                + " - object: number of an object Returns the score.");
        CountedStudio s = Bounds.loaded("press 9;recipe 1 9 1 0 100 0 1;recipe 1 9 1 0 0 50 1;object 9 100 0;object 9 0 0;");
        same("an empty queue", s.scoreAhead(0), 100);
        same("of 0", s.scoreAhead(1), 0);
        int[] due = {200, 300, 400, 500, 600, 700, 800, 900};
        for (int n = 0; n < 8; n++) {
            s.plan(0, 0);
            same("behind " + (n + 1), s.scoreAhead(0), due[n]);
        }
        // 0, 500, 600, 800, 900, 1000, 1000
        int[] mixed = {1, 0, 1, 0, 0, 0};
        int[] then = {500, 600, 800, 900, 1000, 1000};
        for (int n = 0; n < 6; n++) {
            s.plan(1, mixed[n]);
            same("mixed, behind " + (n + 1), s.scoreAhead(1), then[n]);
        }
        s.exchange(1, 0, 1);
        // 100, 550, 775, 875, 975, 1000
        same("the order counts", s.scoreAhead(1), 1000);
        s.cancel(1);
        s.cancel(1);
        same("of four", s.scoreAhead(1), 875);
        Bounds.asked("what goes on does not count", Bounds::busy, 300, x -> x.scoreAhead(2));
        says("Throws IndexOutOfBoundsException if there is no such object");
        Bounds.objectNumbers((x, object) -> x.scoreAhead(object));
    }

    private static void best(int due, String recipes, int score) {
        same(recipes + " of " + score, Bounds.loaded(recipes + "object 1 " + score + " 0;").bestRecipe(0), due);
    }

    private static void bestRecipe() {
        promise(30);
        says("Finds the recipe for which scoreAfter() minus SCORE, divided by WORK plus CURE (compared exactly), is greatest.");
        // 473 / 227 is more than 498 / 239, by 1 / 54253
        best(1, "recipe 39 200 0 0 498 0 1;recipe 27 200 0 0 473 0 1;", 0);
        best(0, "recipe 27 200 0 0 473 0 1;recipe 39 200 0 0 498 0 1;", 0);
        // 1 / 239 is more than 1 / 240
        best(1, "recipe 40 200 0 0 1 0 1;recipe 39 200 0 0 1 0 1;recipe 40 199 0 0 1 0 1;", 0);
        best(1, "recipe 10 0 0 0 333 0 1;recipe 3 0 0 0 100 0 1;", 0);
        best(1, "recipe 1 2 0 0 100 0 1;recipe 2 0 0 0 80 0 1;", 0);
        // at 990 both come to 1000
        best(1, "recipe 3 0 0 0 500 100 1;recipe 2 0 0 0 10 0 1;", 990);
        best(0, "recipe 3 0 0 0 500 100 1;recipe 2 0 0 0 10 0 1;", 900);

        says("- object: number of an object Returns the recipe, of several the lowest one; NONE if none makes the SCORE greater.");
        best(0, "recipe 10 0 0 0 100 0 1;recipe 1 0 0 0 10 0 1;recipe 20 80 0 0 500 50 1;", 0);
        best(1, "recipe 1 0 0 0 0 0 1;recipe 6 0 0 0 25 0 1;recipe 40 200 0 0 500 50 1;", 0);
        best(9, "recipe 1 0 0 0 0 0 1;".repeat(9) + "recipe 40 200 0 0 1 0 1;", 0);
        best(-1, "recipe 1 0 0 0 0 0 1;".repeat(10), 0);
        best(-1, "", 0);
        best(-1, "recipe 1 0 0 0 500 100 1;", 1000);
        best(0, "recipe 40 200 0 0 500 100 1;", 999);
        best(-1, "recipe 1 0 0 0 0 99 1;", 999);
        best(0, "recipe 1 0 0 0 0 100 1;", 999);
        Bounds.asked("busy", Bounds::busy, 2, s -> s.bestRecipe(3));
        says("Throws IndexOutOfBoundsException if there is no such object");
        Bounds.objectNumbers((x, object) -> x.bestRecipe(object));
    }

    private static void steps(int due, String recipe, int score, int target) {
        same(recipe + " from " + score + " to " + target, Bounds.loaded("recipe 1 0 0 0 " + recipe + " 1;object 1 " + score + " 0;").stepsTo(0, 0, target), due);
    }

    private static void stepsTo() {
        promise(31);
        says("Finds the least number of steps by a recipe, one behind the other (as by scoreAfter()), that bring the SCORE of an object to a target or above.");
        steps(1, "10 0", 100, 110);
        steps(2, "10 0", 100, 111);
        steps(1000, "1 0", 0, 1000);
        steps(999, "1 0", 0, 999);
        steps(1, "500 100", 0, 1000);
        steps(2, "500 0", 0, 501);
        // 0, 500, 750, 875, 937, 968, 984, 992, 996, 998, 999
        steps(10, "0 50", 0, 999);
        steps(9, "0 50", 0, 998);

        says("- object: number of an object - recipe: number of a recipe - target: 0 to 1000 Returns the number (0 if the SCORE is there already);");
        for (String recipe : new String[] {"0 0", "500 100"}) {
            steps(0, recipe, 0, 0);
            steps(0, recipe, 1000, 1000);
            steps(0, recipe, 500, 500);
            steps(0, recipe, 500, 499);
            steps(0, recipe, 500, 0);
        }
        steps(1, "1 0", 999, 1000);
        says("NONE if no number does.");
        steps(-1, "0 0", 0, 1);
        steps(-1, "0 0", 999, 1000);
        steps(-1, "0 50", 0, 1000);
        steps(-1, "0 99", 0, 1000);
        steps(-1, "0 1", 901, 902);
        steps(1, "0 1", 900, 901);
        Bounds.asked("busy", Bounds::busy, 1, s -> s.stepsTo(2, 0, 310));
        says("Throws IndexOutOfBoundsException if there is no such object or recipe");
        Bounds.objectNumbers((x, object) -> x.stepsTo(object, 0, 0));
        Bounds.recipeNumbers((x, recipe) -> x.stepsTo(0, recipe, 1000));
        says("Throws IllegalArgumentException if target is out of range");
        Bounds.range(0, 1000, (x, target) -> x.stepsTo(0, 0, target));
    }

    private static void row(int hours, long money, String recipes, int score, int target) {
        CountedStudio s = Bounds.loaded(recipes + "object 1 " + score + " 0;");
        String what = recipes + " from " + score + " to " + target;
        if (hours != Bounds.MIN) same(what, s.quickestTo(0, target), hours);
        if (money != Bounds.MIN) same(what, s.cheapestTo(0, target), money);
    }

    private static void quick(int hours, String recipes, int score, int target) {
        row(hours, Bounds.MIN, recipes, score, target);
    }

    private static void cheap(long money, String recipes, int score, int target) {
        row(Bounds.MIN, money, recipes, score, target);
    }

    private static void quickestTo() {
        promise(32);
        says("Finds the fewest hours, WORK and CURE together, of a row of steps by any recipes, one behind the other (as by scoreAfter()),"
                + " that bring the SCORE of an object to a target or above.");
        // 60 in 10 hours, 40 in 6: the one that brings more is not always the one to take
        String two = "recipe 4 6 0 0 60 0 1;recipe 1 5 1 3 40 0 9;recipe 1 0 0 0 0 0 1;";
        int[][] due = {{1, 6}, {40, 6}, {41, 10}, {60, 10}, {61, 12}, {80, 12}, {81, 16}, {100, 16}, {101, 18}, {120, 18}, {1000, 150}};
        for (int[] row : due) quick(row[1], two, 0, row[0]);
        quick(6, two, 960, 1000);
        quick(10, two, 959, 1000);
        // a small step ahead makes the great one enough: 0 to 10 to 505; without it 0 to 500, to 750
        quick(4, "recipe 1 0 0 0 10 0 1;recipe 3 0 0 0 0 50 1;", 0, 505);
        quick(3, "recipe 1 0 0 0 10 0 1;recipe 3 0 0 0 0 50 1;", 0, 500);
        quick(240000, "recipe 40 200 0 0 1 0 1;", 0, 1000);
        quick(239760, "recipe 40 200 0 0 1 0 1;", 0, 999);
        quick(240, "recipe 40 200 0 0 1 0 1;", 999, 1000);
        quick(1, "recipe 1 0 0 0 500 100 1;", 0, 1000);

        says("- object: number of an object - target: 0 to 1000 Returns the hours (0 if the SCORE is there already);");
        for (String recipes : new String[] {"", "recipe 1 0 0 0 500 100 1;"}) {
            for (int score : new int[] {0, 1, 500, 999, 1000}) {
                quick(0, recipes, score, score);
                quick(0, recipes, score, 0);
                if (score > 0) quick(0, recipes, score, score - 1);
            }
        }
        says("NONE if no row does.");
        quick(-1, "", 0, 1);
        quick(-1, "", 999, 1000);
        quick(-1, "recipe 1 0 0 0 0 0 1;", 999, 1000);
        quick(-1, "recipe 1 0 0 0 0 99 1;", 0, 1000);
        quick(2, "recipe 1 0 0 0 0 99 1;", 0, 999);
        quick(-1, "recipe 1 0 0 0 0 99 1;", 999, 1000);
        quick(3, "recipe 1 0 0 0 0 99 1;recipe 1 0 0 0 1 0 1;", 0, 1000);
        Bounds.asked("busy: 300 to 340 by recipe 2", Bounds::busy, 2, s -> s.quickestTo(2, 310));
        says("Throws IndexOutOfBoundsException if there is no such object");
        Bounds.objectNumbers((x, object) -> x.quickestTo(object, 0));
        says("Throws IllegalArgumentException if target is out of range");
        Bounds.range(0, 1000, (x, target) -> x.quickestTo(0, target));
    }

    private static void cheapestTo() {
        promise(33);
        says("Finds what a row of steps by any recipes that brings the SCORE of an object to a target or above (as with quickestTo(),"
                + " however many hours it takes) costs at least, WORK * WAGE of its steps together.");
        // 60 for 10, 40 for 6: as with hours; CURE costs nothing
        String two = "recipe 2 200 0 0 60 0 5;recipe 3 200 1 3 40 0 2;recipe 1 0 0 0 0 0 1;";
        long[][] due = {{1, 6}, {40, 6}, {41, 10}, {60, 10}, {61, 12}, {80, 12}, {81, 16}, {100, 16}, {101, 18}, {120, 18}, {1000, 150}};
        for (long[] row : due) cheap(row[1], two, 0, (int) row[0]);
        // many cheap hours are better than one that is dear, and one hour that is cheap better than many
        cheap(10, "recipe 1 0 0 0 100 0 11;recipe 10 200 0 0 10 0 1;", 0, 10);
        cheap(11, "recipe 1 0 0 0 100 0 11;recipe 10 200 0 0 10 0 1;", 0, 11);
        cheap(4000000000L, "recipe 40 0 0 0 500 100 100000000;", 0, 1000);
        cheap(2147483648L, "recipe 32 0 0 0 500 100 67108864;", 0, 1000);
        cheap(4294967296L, "recipe 32 0 0 0 500 0 67108864;", 0, 1000);
        cheap(4000000000000L, "recipe 40 200 0 0 1 0 100000000;", 0, 1000);
        cheap(4000000000L, "recipe 40 200 0 0 1 0 100000000;", 999, 1000);
        cheap(1, "recipe 40 0 0 0 500 100 100000000;recipe 1 200 0 0 1 0 1;", 999, 1000);

        says("- object: number of an object - target: 0 to 1000 Returns the amount (0 if the SCORE is there already);");
        for (String recipes : new String[] {"", "recipe 1 0 0 0 500 100 1;"}) {
            for (int score : new int[] {0, 1, 500, 999, 1000}) {
                cheap(0, recipes, score, score);
                cheap(0, recipes, score, 0);
                if (score > 0) cheap(0, recipes, score, score - 1);
            }
        }
        says("NONE if no row does.");
        cheap(-1, "", 0, 1);
        cheap(-1, "", 999, 1000);
        cheap(-1, "recipe 1 0 0 0 0 0 1;", 999, 1000);
        cheap(-1, "recipe 1 0 0 0 0 99 1;", 0, 1000);
        cheap(2, "recipe 1 0 0 0 0 99 1;", 0, 999);
        Bounds.asked("busy", Bounds::busy, 5L, s -> s.cheapestTo(2, 310));
        says("Throws IndexOutOfBoundsException if there is no such object");
        Bounds.objectNumbers((x, object) -> x.cheapestTo(object, 0));
        says("Throws IllegalArgumentException if target is out of range");
        Bounds.range(0, 1000, (x, target) -> x.cheapestTo(0, target));
    }

    private static void hoursAhead() {
        promise(34);
        says("Returns how many hours of work and curing are in the queue of an object, WORK and CURE of all its recipes together. - object: number of an object"
                + " Returns the hours.");
        CountedStudio s = Bounds.loaded("recipe 40 200 1 0 0 0 1;recipe 1 0 0 0 0 0 1;object 1 1 0;object 1 1 0;");
        same("an empty queue", s.hoursAhead(0), 0);
        for (int n = 1; n <= 8; n++) {
            s.plan(0, 0);
            s.plan(1, 1);
            same("greatest", s.hoursAhead(0), 240 * n);
            same("least", s.hoursAhead(1), n);
        }
        Bounds.asked("what goes on does not count", Bounds::busy, 0, x -> x.hoursAhead(2));
        Bounds.asked("two", Bounds::busy, 22, x -> x.hoursAhead(4));
        says("Throws IndexOutOfBoundsException if there is no such object");
        Bounds.objectNumbers((x, object) -> x.hoursAhead(object));
    }

    /** Object 1 owes as much as object 0 would with a queue of its own; both are done. */
    private static CountedStudio bothOwe(int[] first, int[] second) {
        CountedStudio s = HourBounds.dear(first);
        for (int recipe : second) s.plan(1, recipe);
        s.tick(700);
        return s;
    }

    private static void bills() {
        promise(35);
        says("Returns what an object owes. - object: number of an object Returns the amount.");
        same("nothing", Bounds.full().bill(15), 0);
        Bounds.asked("two steps", Bounds::busy, 10, s -> s.bill(0));
        Bounds.asked("none that is done", Bounds::busy, 0, s -> s.bill(2));
        same("one", HourBounds.owing(5).bill(0), 1);
        says("Throws IndexOutOfBoundsException if there is no such object");
        Bounds.objectNumbers((x, object) -> x.bill(object));
        says("Throws ArithmeticException if it is greater than 2147483647");
        Bounds.asked("it is not", () -> HourBounds.owing(1, 2, 3), Bounds.MAX, s -> s.bill(0));
        Bounds.refused("greater by one", () -> HourBounds.owing(1, 2, 3, 5), Bounds.TOO_GREAT, s -> s.bill(0));
        Bounds.refused("two to the 32nd", () -> HourBounds.owing(0, 2, 2, 4), Bounds.TOO_GREAT, s -> s.bill(0));
        Bounds.refused("far", () -> HourBounds.owing(0, 0, 0, 0, 0, 0, 0, 0), Bounds.TOO_GREAT, s -> s.bill(0));
        same("the other one does not", HourBounds.owing(0).bill(1), 0);

        promise(36);
        says("Returns what all objects owe together. Returns the amount.");
        same("no objects", new CountedStudio().allBills(), 0);
        same("nothing", Bounds.full().allBills(), 0);
        Bounds.asked("some", Bounds::busy, 15, s -> s.allBills());
        says("Throws ArithmeticException if it is greater than 2147483647");
        Bounds.asked("it is not", () -> bothOwe(new int[] {1}, new int[] {2, 3}), Bounds.MAX, s -> s.allBills());
        Bounds.refused("greater by one", () -> bothOwe(new int[] {1, 5}, new int[] {2, 3}), Bounds.TOO_GREAT, s -> s.allBills());
        Bounds.refused("two to the 32nd", () -> bothOwe(new int[] {1, 2, 4}, new int[] {1, 2}), Bounds.TOO_GREAT, s -> s.allBills());
        Bounds.refused("one is too great", () -> bothOwe(new int[] {0}, new int[] {}), Bounds.TOO_GREAT, s -> s.allBills());
        same("each of them is told", bothOwe(new int[] {1, 5}, new int[] {2, 3}).bill(0), 2000000001);
    }

    private static void billAhead() {
        promise(37);
        says("Returns what an object would owe if all of its queue were done, too. - object: number of an object Returns the amount.");
        same("nothing", Bounds.full().billAhead(15), 0);
        CountedStudio s = HourBounds.dear(5, 3, 2);
        same("all of the queue", s.billAhead(0), 147483648);
        s.tick(1);
        same("less what goes on", s.billAhead(0), 147483647);
        s.tick(1);
        same("owed and the queue, less what goes on", s.billAhead(0), 100000001);
        s.tick(1);
        same("owed", s.billAhead(0), 47483648);
        Bounds.asked("busy", Bounds::busy, 100000060, x -> x.billAhead(4));
        says("Throws IndexOutOfBoundsException if there is no such object");
        Bounds.objectNumbers((x, object) -> x.billAhead(object));
        says("Throws ArithmeticException if it is greater than 2147483647");
        Bounds.asked("it is not", () -> HourBounds.dear(1, 2, 3), Bounds.MAX, x -> x.billAhead(0));
        Bounds.refused("greater by one", () -> HourBounds.dear(1, 2, 3, 5), Bounds.TOO_GREAT, x -> x.billAhead(0));
        Bounds.refused("two to the 32nd", () -> HourBounds.dear(0, 2, 2, 4), Bounds.TOO_GREAT, x -> x.billAhead(0));
        Bounds.refused("far", () -> HourBounds.dear(0, 0, 0, 0, 0, 0, 0, 0), Bounds.TOO_GREAT, x -> x.billAhead(0));
        CountedStudio owed = HourBounds.owing(1);
        owed.plan(0, 2);
        owed.plan(0, 3);
        same("owed and the queue", owed.billAhead(0), Bounds.MAX);
        owed.plan(0, 5);
        same("one more", Bounds.answer(owed, x -> x.billAhead(0)), Bounds.TOO_GREAT);
        same("owed is told", owed.bill(0), 2000000000);
    }

    private static void record() {
        promise(38);
        says("Returns a property of a record. - index: 0 for the oldest one that is kept - what: 0 object, 1 kind, 2 recipe, 3 time, 4 SCORE ahead of it,"
                + " 5 SCORE behind it Returns the value; NONE for any other what.");
        Bounds.properties(Bounds.busy(), (s, what) -> s.record(0, what), 0, 0, 0, 1, 500, 510);
        Bounds.properties(Bounds.busy(), (s, what) -> s.record(1, what), 3, 2, -1, 1, 200, 180);
        Bounds.properties(Bounds.busy(), (s, what) -> s.record(2, what), 0, 1, 0, 1, 510, 510);
        Bounds.properties(Bounds.busy(), (s, what) -> s.record(3, what), 1, 0, 0, 3, 400, 410);
        Bounds.properties(Bounds.busy(), (s, what) -> s.record(4, what), 1, 1, 0, 10, 410, 403);
        Bounds.properties(Bounds.busy(), (s, what) -> s.record(5, what), 0, 0, 0, 11, 510, 520);
        // the 101st record was made in the 13th row of steps, and pushed the first one out
        Bounds.properties(HourBounds.withRecords(101), (s, what) -> s.record(0, what), 0, 0, 0, 2, 1, 2);
        Bounds.properties(HourBounds.withRecords(101), (s, what) -> s.record(99, what), 0, 0, 0, 113, 100, 101);
        says("Throws IndexOutOfBoundsException if there is no such record");
        for (int bad : new int[] {-1, 6, 99, 100, Bounds.MIN, Bounds.MAX}) {
            Bounds.refused("index " + bad, Bounds::busy, Bounds.NO_SUCH, s -> s.record(bad, 0));
            Bounds.refused("index " + bad + " and no such what", Bounds::busy, Bounds.NO_SUCH, s -> s.record(bad, 6));
        }
        Bounds.refused("none yet", Bounds::full, Bounds.NO_SUCH, s -> s.record(0, 0));
        for (int records : new int[] {1, 99, 100, 101, 200, 201}) {
            CountedStudio s = HourBounds.withRecords(records);
            int kept = Math.min(100, records);
            same("the last of " + records, s.record(kept - 1, 5), records);
            same("behind the last of " + records, Bounds.answer(s, x -> x.record(kept, 0)), Bounds.NO_SUCH);
        }
    }

    /** A press record and a loan record of object 1, and so many further records of object 0. */
    private static CountedStudio pushedOut(int further) {
        CountedStudio s = Bounds.loaded("benches 2;press 9;recipe 1 3 1 0 5 0 1;recipe 1 0 0 0 0 0 1;object 9 100 0;object 9 200 0;");
        s.plan(0, 0);
        s.plan(1, 0);
        s.lend(1, 0, 0, 1);
        // done in the hour 1 both; object 1 waits in the hours 2 to 4, cures until 7, is lent in it and back in 8
        s.tick(9);
        for (int made = 0; made < further; made += 8) {
            int steps = Math.min(8, further - made);
            for (int n = 0; n < steps; n++) s.plan(0, 1);
            s.tick(steps + 1);
        }
        return s;
    }

    private static void recordsOf() {
        promise(39);
        says("Counts the records of an object of a kind that are kept. - object: number of an object - kind: 0 to 2 Returns the number.");
        // records: step 0, step 1, press 0, press 1, loan 1
        int[][] due = {{1, 1, 0}, {1, 1, 1}};
        for (int object = 0; object <= 1; object++) {
            for (int kind = 0; kind <= 2; kind++) same("object " + object + ", kind " + kind, pushedOut(0).recordsOf(object, kind), due[object][kind]);
        }
        int[] kept = {1, 1, 0, 0};
        for (int k = 0; k < 4; k++) {
            same("step of 1, pushed out by " + (95 + k), pushedOut(95 + k).recordsOf(1, 0), kept[k]);
            same("of 0 there are " + k, pushedOut(95 + k).recordsOf(0, 0), k == 0 ? 96 : 95 + k);
        }
        same("press of 1 is kept", pushedOut(98).recordsOf(1, 1), 1);
        same("press of 1 is pushed out", pushedOut(99).recordsOf(1, 1), 0);
        same("loan of 1 is kept", pushedOut(99).recordsOf(1, 2), 1);
        same("loan of 1 is pushed out", pushedOut(100).recordsOf(1, 2), 0);
        same("a hundred", pushedOut(108).recordsOf(0, 0), 100);
        same("none", Bounds.full().recordsOf(15, 2), 0);
        Bounds.asked("busy", Bounds::busy, 2, s -> s.recordsOf(0, 0));
        says("Throws IndexOutOfBoundsException if there is no such object");
        Bounds.objectNumbers((x, object) -> x.recordsOf(object, 0));
        says("Throws IllegalArgumentException if kind is out of range");
        Bounds.range(0, 2, (x, kind) -> x.recordsOf(0, kind));
    }

    private static void latestRecord() {
        promise(40);
        says("Finds the latest record of an object. - object: number of an object Returns its index; NONE if none is kept.");
        same("none yet", Bounds.full().latestRecord(15), -1);
        Bounds.asked("the last of all", Bounds::busy, 5, s -> s.latestRecord(0));
        Bounds.asked("the second of two", Bounds::busy, 4, s -> s.latestRecord(1));
        Bounds.asked("its only one", Bounds::busy, 1, s -> s.latestRecord(3));
        Bounds.asked("none of it", Bounds::busy, -1, s -> s.latestRecord(4));
        same("of five", pushedOut(0).latestRecord(1), 4);
        same("of a hundred", pushedOut(95).latestRecord(1), 4);
        same("one is pushed out", pushedOut(96).latestRecord(1), 3);
        same("the oldest that is kept", pushedOut(99).latestRecord(1), 0);
        same("none is kept", pushedOut(100).latestRecord(1), -1);
        same("the greatest index", pushedOut(100).latestRecord(0), 99);
        same("one", HourBounds.withRecords(1).latestRecord(0), 0);
        says("Throws IndexOutOfBoundsException if there is no such object");
        Bounds.objectNumbers((x, object) -> x.latestRecord(object));
    }

    private static void lost() {
        promise(41);
        says("Returns what an object lost while it waited for presses, by its records of kind 1 that are kept. - object: number of an object"
                + " Returns the sum of SCORE ahead minus SCORE behind.");
        same("nothing yet", Bounds.full().lost(15), 0);
        Bounds.asked("seven", Bounds::busy, 7, s -> s.lost(1));
        Bounds.asked("not told yet", Bounds::busy, 0, s -> s.lost(0));
        same("of 205, 204, 203, 202", pushedOut(0).lost(1), 3);
        same("it is kept", pushedOut(98).lost(1), 3);
        same("it is pushed out", pushedOut(99).lost(1), 0);
        CountedStudio twice = pushedOut(0);
        for (int object = 0; object <= 1; object++) twice.plan(object, 0);
        twice.tick(9);
        same("two waits", twice.lost(1), 6);
        says("Throws IndexOutOfBoundsException if there is no such object");
        Bounds.objectNumbers((x, object) -> x.lost(object));
    }

    private static void recorded() {
        promise(42);
        says("Returns the sum of all changes of an object by its records that are kept: SCORE behind minus SCORE ahead. - object: number of an object Returns the sum.");
        same("nothing yet", Bounds.full().recorded(15), 0);
        Bounds.asked("10 less 7", Bounds::busy, 3, s -> s.recorded(1));
        Bounds.asked("a loan", Bounds::busy, -20, s -> s.recorded(3));
        Bounds.asked("two steps; what it loses now is not told yet", Bounds::busy, 20, s -> s.recorded(0));
        int[] due = {-18, -18, -23, -23, -20, 0};
        for (int k = 0; k < 6; k++) same("pushed out by " + (95 + k), pushedOut(95 + k).recorded(1), due[k]);
        for (int records : new int[] {1, 99, 100, 101, 200, 201}) {
            same("of " + records, HourBounds.withRecords(records).recorded(0), Math.min(100, records));
        }
        says("Throws IndexOutOfBoundsException if there is no such object");
        Bounds.objectNumbers((x, object) -> x.recorded(object));
    }
}
