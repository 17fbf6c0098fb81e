/** The bounds that 'Terms' names for things: how many, and from which number to which. */
final class TermBounds {
    private TermBounds() {
    }

    private static void says(String words) {
        Sentences.says(words);
    }

    private static void same(String what, Object got, Object due) {
        Bounds.same(what, got, due);
    }

    static void all() {
        Sentences.open("What it is");
        whatItIs();
        Sentences.open("Terms");
        numbers();
        benches();
        presses();
        recipes();
        objects();
        loans();
    }

    private static void whatItIs() {
        says("A conservation studio of a library: objects with condition scores, recipes of treatment steps with work at benches, curing and"
                + " presses by sizes, approvals by curators that do not last, loans that wait until an object is ready, records from which every"
                + " score follows, bills without overflow, reasons why a step cannot begin, forecasts; scripts, undo and snapshots.");
        CountedStudio s = Bounds.busy();
        for (int object = 0; object < 5; object++) {
            // the objects begin with 500, 400, 300, 200 and 100; the one that waits for a press has lost 1 without a record yet
            int first = 500 - 100 * object;
            int lostNow = s.object(object, 3) == 2 ? 1 : 0;
            same("the score of object " + object + " follows from the records", s.object(object, 1), first + s.recorded(object) - lostNow);
        }
        same("an object in each state", s.objectsIn(0) + s.objectsIn(1) + s.objectsIn(2) + s.objectsIn(3) + s.objectsIn(4), 31);

        says("An object is used for at most 512 calls after it has been made; what later calls answer is free.");
        CountedStudio used = new CountedStudio();
        for (int n = 0; n < 510; n++) used.tick(1);
        same("the 511th call", used.undo(), 9);
        same("the 512th call", used.count(4), 509);
        CountedStudio asked = Bounds.full();
        for (int n = asked.keptCalls(); n < 511; n++) asked.tick(1);
        same("a last hour", asked.tick(1), 512 - Bounds.full().keptCalls());
    }

    private static void numbers() {
        says("THINGS. All numbers are whole; divisions are rounded down.");
        // 33 * 5 / 100 is 1.65, and 99 * 1 / 100 is 0.99
        CountedStudio s = Bounds.loaded("recipe 1 0 0 0 0 33 1;recipe 1 0 0 0 0 99 1;recipe 1 0 0 0 0 100 1;object 1 995 0;object 1 999 0;");
        same("1.65", s.scoreAfter(0, 0), 996);
        same("0.99", s.scoreAfter(1, 1), 999);
        same("1", s.scoreAfter(1, 2), 1000);

        says("The time is counted in hours, 0 at first, at most 20000.");
        same("at first", new CountedStudio().count(4), 0);
        same("an hour", Bounds.at(1, new CountedStudio()).count(4), 1);
        same("the last one", Bounds.at(20000, new CountedStudio()).count(4), 20000);
        same("up to it", Bounds.at(19999, new CountedStudio()).tick(1), 20000);
        Bounds.refused("one more", () -> Bounds.at(20000, new CountedStudio()), Bounds.FULL, x -> x.tick(1));
        Bounds.refused("one too many", () -> Bounds.at(19999, new CountedStudio()), Bounds.FULL, x -> x.tick(2));
        Bounds.refused("a thousand", () -> Bounds.at(19001, new CountedStudio()), Bounds.FULL, x -> x.tick(1000));
        same("a thousand fit", Bounds.at(19000, new CountedStudio()).tick(1000), 20000);
    }

    private static void benches() {
        says("There are 1 to 4 benches (1 at first).");
        same("at first", new CountedStudio().count(0), 1);
        same("not told", Bounds.loaded("object 1 1 1;").count(0), 1);
        for (int benches = 1; benches <= 4; benches++) {
            CountedStudio s = Bounds.textTaken("benches " + benches + ";recipe 9 0 0 0 0 0 1;" + "object 1 1 0;".repeat(5), 5);
            same("benches", s.count(0), benches);
            for (int object = 0; object < 5; object++) s.plan(object, 0);
            same("all are free", s.count(6), benches);
            s.tick(1);
            same("so many at once", s.objectsIn(1), (1 << benches) - 1);
            same("none is free", s.count(6), 0);
        }
        Bounds.textRefused("benches 0;", 2, 8);
        Bounds.textRefused("benches 5;", 2, 8);
    }

    private static void presses() {
        says("PRESSES, at most 6, are numbered from 0; each has a SIZE (1 to 100).");
        CountedStudio s = Bounds.textTaken("press 1;press 2;press 3;press 99;press 4;press 100;", 0);
        same("the first", s.press(0, 0), 1);
        same("the last", s.press(5, 0), 100);
        same("six", s.count(1), 6);
        Bounds.textRefused("press 1;".repeat(7), 4, 48);
        Bounds.textRefused("press 0;", 2, 6);
        Bounds.textRefused("press 101;", 2, 6);
    }

    private static void recipes() {
        says("RECIPES, at most 10, are numbered from 0; each has WORK (1 to 40 hours), CURE (0 to 200 hours), PRESS (1 if it cures in a press,"
                + " otherwise 0), LEVEL (0 to 3), BASE (0 to 500), RATE (0 to 100) and WAGE (1 to 100000000, for each hour of work).");
        int[] least = {1, 0, 0, 0, 0, 0, 1};
        int[] greatest = {40, 200, 1, 3, 500, 100, 100000000};
        CountedStudio s = Bounds.textTaken(row("recipe", least) + row("recipe", greatest) + row("recipe", least).repeat(7) + row("recipe", greatest), 0);
        same("ten", s.count(2), 10);
        for (int what = 0; what < 7; what++) {
            same("least " + what, s.recipe(0, what), least[what]);
            same("greatest " + what, s.recipe(1, what), greatest[what]);
            same("the last one's " + what, s.recipe(9, what), greatest[what]);
        }
        Bounds.textRefused(row("recipe", least).repeat(11), 4, 210);
        Bounds.textRefused("recipe 0 0 0 0 0 0 1;", 2, 7);
        Bounds.textRefused("recipe 41 0 0 0 0 0 1;", 2, 7);
        Bounds.textRefused("recipe 1 201 0 0 0 0 1;", 2, 9);
        Bounds.textRefused("recipe 1 0 2 0 0 0 1;", 2, 11);
        Bounds.textRefused("recipe 1 0 0 4 0 0 1;", 2, 13);
        Bounds.textRefused("recipe 1 0 0 0 501 0 1;", 2, 15);
        Bounds.textRefused("recipe 1 0 0 0 0 101 1;", 2, 17);
        Bounds.textRefused("recipe 1 0 0 0 0 0 0;", 2, 19);
        Bounds.textRefused("recipe 1 0 0 0 0 0 100000001;", 2, 19);
    }

    private static String row(String word, int[] numbers) {
        StringBuilder text = new StringBuilder(word);
        for (int number : numbers) text.append(' ').append(number);
        return text.append(';').toString();
    }

    private static void objects() {
        says("OBJECTS, at most 16, are numbered from 0; each has a SIZE (1 to 100), a SCORE (0 to 1000) and a GUARD (0 to 3), a queue of at most 8"
                + " recipes, an approval or none, and a loan that waits or none.");
        int[] least = {1, 0, 0};
        int[] greatest = {100, 1000, 3};
        CountedStudio s = Bounds.textTaken("recipe 1 0 0 1 0 0 1;" + row("object", least) + row("object", greatest).repeat(15), 16);
        for (int what = 0; what < 3; what++) {
            same("least " + what, s.object(0, what), least[what]);
            same("greatest " + what, s.object(15, what), greatest[what]);
        }
        Bounds.textRefused(row("object", least).repeat(17), 4, 208);
        Bounds.textRefused("object 0 0 0;", 2, 7);
        Bounds.textRefused("object 101 0 0;", 2, 7);
        Bounds.textRefused("object 1 1001 0;", 2, 9);
        Bounds.textRefused("object 1 0 4;", 2, 11);
        same("no queue", s.object(15, 5), 0);
        same("no approval", s.object(15, 6), -1);
        same("no loan", s.loan(15, 0), -1);
        for (int n = 1; n <= 8; n++) same("queue", s.plan(15, 0), n);
        same("a ninth", s.plan(15, 0), -2);
        same("an approval", s.approve(15), 72);
        same("a loan", s.lend(15, 0, 0, 1), 0);
        same("a second one", s.lend(15, 0, 0, 1), -4);

        says("A step of an object by a recipe needs an approval if LEVEL plus GUARD is 4 or more.");
        CountedStudio t = Bounds.loaded("recipe 1 0 0 0 0 0 1;recipe 1 0 0 1 0 0 1;recipe 1 0 0 2 0 0 1;recipe 1 0 0 3 0 0 1;"
                + "object 1 1 0;object 1 1 1;object 1 1 2;object 1 1 3;");
        for (int guard = 0; guard <= 3; guard++) {
            for (int level = 0; level <= 3; level++) {
                same(level + " and " + guard, t.needsApproval(guard, level), level + guard >= 4);
                t.plan(guard, level);
                same(level + " and " + guard + ": reason", t.reason(guard), level + guard >= 4 ? 4 : 0);
                t.clearQueue(guard);
            }
        }
    }

    private static void loans() {
        says("A loan has a DUE (0 to 20000), a MINIMUM (0 to 1000) and a LENGTH (1 to 500 hours).");
        CountedStudio s = Bounds.loaded("object 1 1 1;object 1 1 1;");
        same("least", s.lend(0, 0, 0, 1), 0);
        same("greatest", s.lend(1, 20000, 1000, 500), 20000);
        int[] least = {0, 0, 1};
        int[] greatest = {20000, 1000, 500};
        for (int what = 0; what < 3; what++) {
            same("least " + what, s.loan(0, what), least[what]);
            same("greatest " + what, s.loan(1, what), greatest[what]);
        }
        Bounds.range(0, 20000, (x, due) -> x.lend(0, due, 0, 1));
        Bounds.range(0, 1000, (x, minimum) -> x.lend(0, 0, minimum, 1));
        Bounds.range(1, 500, (x, length) -> x.lend(0, 0, 0, length));

        says("LIFE (1 to 500; 72 at first) is how many hours an approval lasts.");
        same("at first", new CountedStudio().count(5), 72);
        same("not told", Bounds.loaded("object 1 1 1;").count(5), 72);
        for (int life : new int[] {1, 2, 500}) {
            CountedStudio t = Bounds.textTaken("life " + life + ";recipe 1 0 0 3 0 0 1;recipe 40 0 0 0 0 0 1;object 1 1 1;object 1 1 0;", 2);
            same("life", t.count(5), life);
            t.plan(0, 0);
            same("end", t.approve(0), life);
            keepBenchBusy(t, life - 1);
            same("its last hour", t.reason(0), life == 1 ? 0 : 6);
            keepBenchBusy(t, 1);
            same("behind it", t.reason(0), 5);
        }
        Bounds.textRefused("life 0;", 2, 5);
        Bounds.textRefused("life 501;", 2, 5);
    }

    /** Object 1 takes the one bench, ahead of all others, for as many hours. */
    private static void keepBenchBusy(CountedStudio s, int hours) {
        if (s.loan(1, 0) == -1) s.lend(1, 0, 1000, 1);
        for (int left = hours; left > 0; left -= 200) {
            while (s.object(1, 5) < 8) s.plan(1, 1);
            s.tick(Math.min(200, left));
        }
    }
}
