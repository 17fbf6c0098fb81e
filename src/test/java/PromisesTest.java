/** For each promise of the document: ordinary answers, the edges it names, wrong inputs. All values are worked out by hand. */
public final class PromisesTest {
    /** Recipe 0: plain, 1: press, 2: at a bench alone, level 3 and dear, 3: cures without press. */
    private static final String SHOP = "press 20;press 50;press 20;"
            + "recipe 2 0 0 0 100 0 10;recipe 1 5 1 1 0 50 7;recipe 4 0 0 3 30 10 100000000;recipe 3 2 0 2 0 0 1;"
            + "object 10 400 0;object 50 900 1;object 51 0 3;object 20 400 2;";
    private static final int MIN = Integer.MIN_VALUE;
    private static final int MAX = Integer.MAX_VALUE;

    public static void main(String[] args) throws Exception {
        for (int number = 1; number <= 65; number++) {
            PromisesTest.class.getDeclaredMethod("promise" + number).invoke(null);
        }
        hours();
        Check.report("PromisesTest");
    }

    private static CountedStudio shop() {
        return Check.loaded(SHOP);
    }

    private static void same(String what, Object got, Object due) {
        Check.same(what, got, due);
    }

    /** A text that load() or play() refuses, with the code and the position that are due. */
    private static void refused(boolean script, String text, int code, int position) {
        CountedStudio s = shop();
        Check.input(s, text);
        same("refuses " + text, script ? s.play() : s.load(), RepairStudio.TEXT_ERROR);
        same("code of " + text, s.errorCode(), code);
        same("position of " + text, s.errorPosition(), position);
        same("nothing else changes by " + text, s.count(3), 4);
        same("the buffer is empty behind " + text, s.truncateInput(1), -1);
    }

    private static String times(String text, int times) {
        return text.repeat(times);
    }

    static void promise1() {
        CountedStudio s = new CountedStudio();
        int[] due = {1, 0, 0, 0, 0, 72, 1, 0, 0, 0, 0, 0, 0};
        for (int what = 0; what < due.length; what++) same("1: count " + what, s.count(what), due[what]);
        same("1: error", s.errorCode(), 0);
        same("1: position", s.errorPosition(), -1);
        same("1: output", s.outputByte(0), -1);
        same("1: buffer", s.truncateInput(1), -1);
        same("1: ticks", s.tick(1000), 1000);
    }

    static void promise2() {
        CountedStudio s = new CountedStudio();
        for (int n = 1; n <= 49; n++) same("2: append", s.appendInput(0x20202020, 0x20202020, 0x20202020, 0x20202020, 0x20202020), 20 * n);
        same("2: to 981", s.truncateInput(980), 980);
        same("2: full", s.appendInput(0x20202020, 0x20202020, 0x20202020, 0x20202020, 0x20202020), 1000);
        same("2: no more", s.appendInput(0, 0, 0, 0, 0), -1);
        same("2: nothing was appended", s.truncateInput(1000), 1000);
        same("2: one off", s.truncateInput(981), 981);
        same("2: would exceed by one", s.appendInput(0, 0, 0, 0, 0), -1);
        same("2: still 981", s.truncateInput(982), -1);
        same("2: all blanks load", s.load(), 0);
        // "object 5 6 0;" and blanks: the most significant byte comes first
        same("2: order", s.appendInput(0x6f626a65, 0x63742035, 0x20362030, 0x3b202020, 0x20202020), 20);
        same("2: read", s.load(), 1);
        same("2: size", s.object(0, 0), 5);
        same("2: empty behind load", s.appendInput(-1, -1, -1, -1, -1), 20);
        same("2: high bytes are no tokens", s.load(), -3);
        same("2: at 0", s.errorPosition(), 0);
    }

    static void promise3() {
        CountedStudio s = new CountedStudio();
        same("3: empty", s.truncateInput(0), 0);
        same("3: too long", s.truncateInput(1), -1);
        s.appendInput(0, 0, 0, 0, 0);
        same("3: whole", s.truncateInput(20), 20);
        same("3: above", s.truncateInput(21), -1);
        same("3: below", s.truncateInput(-1), -1);
        same("3: least", s.truncateInput(MIN), -1);
        same("3: greatest", s.truncateInput(MAX), -1);
        same("3: shorter", s.truncateInput(7), 7);
        same("3: gone", s.truncateInput(8), -1);
        same("3: appended behind", s.appendInput(0, 0, 0, 0, 0), 27);
    }

    static void promise4() {
        CountedStudio s = shop();
        s.plan(0, 0);
        s.tick(1);
        s.saveSnapshot(0);
        s.write(0);
        Check.input(s, "object 1 2 3;life 9;object 4 5 0 ; benches 4;");
        same("4: objects", s.load(), 2);
        int[] due = {4, 0, 0, 2, 0, 9, 4, 0, 0, 0, 0, 0, 0};
        for (int what = 0; what < due.length; what++) same("4: count " + what, s.count(what), due[what]);
        same("4: on the shelf", s.objectsIn(0), 3);
        same("4: no snapshot", s.restoreSnapshot(0), false);
        same("4: nothing to undo", s.undo(), -1);
        Check.input(s, "");
        same("4: empty text", s.load(), 0);
        same("4: benches as at first", s.count(0), 1);
        same("4: life as at first", s.count(5), 72);
        Check.input(s, "press1;press\n2;recipe 1 0 0 0 0 0 1;object 1 1 1;");
        same("4: tokens may touch", s.load(), 1);
        Check.input(s, "press 000000007;");
        same("4: nine digits", s.load(), 0);
        same("4: leading zeros", s.press(0, 0), 7);
        String full = times("press 1;", 6) + times("recipe 40 200 1 3 500 100 100000000;", 10) + times("object 1 0 0;", 16);
        Check.input(s, full);
        same("4: as many as can be", s.load(), 16);
        same("4: ten recipes", s.recipe(9, 6), 100000000);
        full = "benches 1;life 500;object 1 0 3;object 100 1000 0;";
        Check.input(s, full);
        same("4: the ends of the ranges", s.load(), 2);
    }

    static void promise4Errors() {
        refused(false, "prex 1;", 1, 0);
        for (String word : new String[] {"benches 1", "life 1", "press 1", "recipe 1 0 0 0 0 0 1", "object 1 1 1"}) {
            refused(false, "z" + word.substring(1) + ";", 1, 0);
            refused(false, word.replaceFirst(" ", "z ") + ";", 1, 0);
        }
        refused(false, "press 1; Press 1;", 1, 9);
        refused(false, " press", 1, 6);
        refused(false, "press 1  ", 1, 9);
        refused(false, "press ;", 1, 6);
        refused(false, "press 1 2;", 1, 8);
        refused(false, "press 1;;", 1, 8);
        refused(false, "press 0000000001;", 1, 6);
        refused(false, "press 1;\tpress 1;", 1, 8);
        refused(false, "pressesss 1;", 1, 0);
        refused(false, "press -1;", 1, 6);
        refused(false, "1;", 1, 0);
        refused(false, "plan 0 0;", 1, 0);
        refused(false, "press 1" + (char) 0 + ";", 1, 7);
        refused(false, "press 1" + (char) 225 + ";", 1, 7);
        refused(false, "press 0;", 2, 6);
        refused(false, "press 101;", 2, 6);
        refused(false, "press 999999999;", 2, 6);
        refused(false, "press 101 x", 2, 6);
        refused(false, "benches 0;", 2, 8);
        refused(false, "benches 5;", 2, 8);
        refused(false, "life 0;", 2, 5);
        refused(false, "life 501;", 2, 5);
        refused(false, "recipe 0 0 0 0 0 0 1;", 2, 7);
        refused(false, "recipe 41 0 0 0 0 0 1;", 2, 7);
        refused(false, "recipe 1 201 0 0 0 0 1;", 2, 9);
        refused(false, "recipe 1 0 2 0 0 0 1;", 2, 11);
        refused(false, "recipe 1 0 0 4 0 0 1;", 2, 13);
        refused(false, "recipe 1 0 0 0 501 0 1;", 2, 15);
        refused(false, "recipe 1 0 0 0 0 101 1;", 2, 17);
        refused(false, "recipe 1 0 0 0 0 0 0;", 2, 19);
        refused(false, "recipe 1 0 0 0 0 0 100000001;", 2, 19);
        refused(false, "object 0 0 0;", 2, 7);
        refused(false, "object 101 0 0;", 2, 7);
        refused(false, "object 1 1001 0;", 2, 9);
        refused(false, "object 1 0 4;", 2, 11);
        refused(false, "benches 1;benches", 3, 10);
        refused(false, "benches 1;life 2;benches 9;", 3, 17);
        refused(false, "life 1;life 2;", 3, 7);
        refused(false, times("press 1;", 7), 4, 48);
        refused(false, times("press 1;", 6) + "press", 4, 48);
        refused(false, times("press 1;", 6) + "pres", 1, 48);
        refused(false, times("recipe 1 0 0 0 0 0 1;", 11), 4, 210);
        refused(false, times("object 1 0 0;", 17), 4, 208);
        CountedStudio s = shop();
        s.plan(0, 0);
        s.saveSnapshot(1);
        int digest = s.digest();
        Check.input(s, "benches 2;object 1 1 1;press");
        same("4: refused", s.load(), -3);
        same("4: benches stay", s.count(0), 1);
        same("4: objects stay", s.object(2, 0), 51);
        same("4: queues stay", s.queued(0, 0), 0);
        same("4: digest stays", s.digest(), digest);
        same("4: snapshots stay", s.restoreSnapshot(1), true);
    }

    static void promise5() {
        promise4Errors();
        CountedStudio s = new CountedStudio();
        same("5: none yet", s.errorCode(), 0);
        Check.input(s, "press 101;");
        s.load();
        same("5: range", s.errorCode(), 2);
        s.appendInput(0, 0, 0, 0, 0);
        s.undo();
        same("5: stays until the next text", s.errorCode(), 2);
        s.truncateInput(0);
        s.play();
        same("5: none by a good script", s.errorCode(), 0);
        Check.input(s, "press 1;");
        s.play();
        same("5: by a script", s.errorCode(), 1);
        s.load();
        same("5: none by a good text", s.errorCode(), 0);
    }

    static void promise6() {
        CountedStudio s = new CountedStudio();
        same("6: none yet", s.errorPosition(), -1);
        Check.input(s, "\n  object 1 1 1 \n");
        s.load();
        same("6: length of the text", s.errorPosition(), 17);
        s.load();
        same("6: none by a good text", s.errorPosition(), -1);
        Check.input(s, "tick 1;tick x;");
        s.play();
        same("6: in a script", s.errorPosition(), 12);
        Check.input(s, "plan 0 0;");
        same("6: a command that fails", s.play(), 0);
        same("6: is no error of the text", s.errorPosition(), -1);
    }

    static void promise7() {
        CountedStudio s = Check.loaded("benches 2;life 8;press 9;press 9;recipe 1 3 1 0 0 0 1;recipe 2 0 0 0 0 0 1;object 1 500 0;object 1 600 0;object 1 700 0;");
        same("7: below", s.count(-1), -1);
        same("7: above", s.count(13), -1);
        same("7: far below", s.count(MIN), -1);
        same("7: far above", s.count(MAX), -1);
        s.plan(0, 0);
        s.plan(1, 1);
        s.lend(2, 0, 0, 5);
        s.tick(1);
        int[] one = {2, 2, 2, 3, 1, 8, 0, 2, 0, 0, 1, 0, 4};
        for (int what = 0; what < one.length; what++) same("7: count " + what, s.count(what), one[what]);
        s.tick(1);
        int[] two = {2, 2, 2, 3, 2, 8, 1, 1, 2, 1, 1, 0, 5};
        for (int what = 0; what < two.length; what++) same("7: then " + what, s.count(what), two[what]);
        s.lend(0, 1, 0, 5);
        s.tick(10);
        // object 0 cures until the hour 4 and is lent in it, 3 hours late
        same("7: loans", s.count(10), 2);
        same("7: late", s.count(11), 3);
        same("7: records", s.count(8), 5);
    }

    static void promise8() {
        CountedStudio s = shop();
        same("8: size", s.press(1, 0), 50);
        same("8: free", s.press(0, 1), -1);
        same("8: other", s.press(0, 2), -1);
        same("8: other", s.press(0, -1), -1);
        s.plan(3, 1);
        s.plan(1, 1);
        s.approve(3);
        s.tick(3);
        same("8: object 3 in the lowest of the least", s.press(0, 1), 3);
        same("8: object 1 in the great one", s.press(1, 1), 1);
        same("8: third is free", s.press(2, 1), -1);
        Check.noObject("8: below", () -> s.press(-1, 0));
        Check.noObject("8: above", () -> s.press(3, 0));
        Check.noObject("8: above, other what", () -> s.press(MAX, 9));
        Check.noObject("8: none", () -> new CountedStudio().press(0, 0));
    }

    static void promise9() {
        CountedStudio s = shop();
        int[] due = {1, 5, 1, 1, 0, 50, 7, -1};
        for (int what = 0; what < due.length; what++) same("9: recipe 1 " + what, s.recipe(1, what), due[what]);
        same("9: last", s.recipe(3, 0), 3);
        same("9: below", s.recipe(0, -1), -1);
        same("9: far", s.recipe(0, MAX), -1);
        Check.noObject("9: below", () -> s.recipe(-1, 0));
        Check.noObject("9: above", () -> s.recipe(4, 0));
        Check.noObject("9: far", () -> s.recipe(MIN, -1));
    }

    static void promise10() {
        CountedStudio s = shop();
        int[] fresh = {20, 400, 2, 0, 0, 0, -1, -1, -1, 0, 30000, -1};
        for (int what = 0; what < fresh.length; what++) same("10: fresh " + what, s.object(3, what), fresh[what]);
        same("10: below", s.object(3, -1), -1);
        s.plan(3, 2);
        s.plan(3, 3);
        s.approve(3);
        s.lend(3, 77, 0, 1);
        same("10: approval", s.object(3, 6), 72);
        same("10: urgency", s.object(3, 10), 77);
        s.tick(1);
        int[] busy = {20, 400, 2, 1, 4, 1, -1, 2, -1, 0, 77};
        for (int what = 0; what < busy.length; what++) same("10: busy " + what, s.object(3, what), busy[what]);
        s.tick(4);
        int[] shelf = {20, 490, 2, 0, 0, 1, -1, -1, -1, 1, 77};
        for (int what = 0; what < shelf.length; what++) same("10: shelf " + what, s.object(3, what), shelf[what]);
        s.approve(3);
        s.tick(4);
        int[] cures = {20, 490, 2, 3, 2, 0, -1, 3, -1, 2, 77};
        for (int what = 0; what < cures.length; what++) same("10: cures " + what, s.object(3, what), cures[what]);
        s.tick(2);
        same("10: ended", s.object(3, 7), -1);
        Check.noObject("10: below", () -> s.object(-1, 0));
        Check.noObject("10: above", () -> s.object(4, 0));
        Check.noObject("10: far", () -> s.object(MAX, 0));
        CountedStudio one = Check.loaded("press 1;press 9;recipe 1 3 1 0 0 0 1;object 5 10 0;object 9 10 0;");
        one.plan(0, 0);
        one.plan(1, 0);
        one.tick(3);
        same("10: the second waits", one.object(1, 3), 2);
        same("10: REST of one that waits", one.object(1, 4), 0);
        same("10: its recipe", one.object(1, 7), 0);
        same("10: its press", one.object(1, 8), -1);
        same("10: the press of the first", one.object(0, 8), 1);
    }

    static void promise11() {
        CountedStudio s = shop();
        s.plan(0, 2);
        s.plan(0, 1);
        same("11: first", s.queued(0, 0), 2);
        same("11: second", s.queued(0, 1), 1);
        same("11: none", s.queued(0, 2), -1);
        same("11: below", s.queued(0, -1), -1);
        same("11: far", s.queued(0, MAX), -1);
        same("11: least", s.queued(0, MIN), -1);
        s.cancel(0);
        same("11: what was there", s.queued(0, 1), -1);
        Check.noObject("11: object", () -> s.queued(4, 0));
        Check.noObject("11: object", () -> s.queued(-1, 0));
    }

    static void promise12() {
        CountedStudio s = shop();
        same("12: none", s.loan(0, 0), -1);
        s.lend(0, 30, 600, 500);
        same("12: due", s.loan(0, 0), 30);
        same("12: minimum", s.loan(0, 1), 600);
        same("12: length", s.loan(0, 2), 500);
        same("12: other", s.loan(0, 3), -1);
        same("12: other", s.loan(0, -1), -1);
        s.recall(0);
        same("12: none again", s.loan(0, 2), -1);
        Check.noObject("12: object", () -> s.loan(4, 0));
        Check.noObject("12: object", () -> s.loan(-1, 3));
    }

    static void promise13() {
        CountedStudio s = shop();
        for (int n = 1; n <= 8; n++) same("13: plan", s.plan(1, n % 4), n);
        same("13: full", s.plan(1, 0), -2);
        same("13: full is not undone", s.count(12), 8);
        same("13: last", s.queued(1, 7), 0);
        same("13: order", s.queued(1, 0), 1);
        Check.noObject("13: object", () -> s.plan(4, 0));
        Check.noObject("13: object", () -> s.plan(-1, 0));
        Check.noObject("13: recipe", () -> s.plan(1, 4));
        Check.noObject("13: recipe", () -> s.plan(0, -1));
        same("13: other queue", s.plan(0, 3), 1);
        s.plan(3, 2);
        s.approve(3);
        s.plan(3, 2);
        same("13: keeps the approval", s.object(3, 6), 72);
    }

    static void promise14() {
        CountedStudio s = shop();
        same("14: empty", s.cancel(3), -4);
        s.plan(3, 2);
        s.plan(3, 1);
        s.approve(3);
        same("14: last", s.cancel(3), 1);
        same("14: approval stays", s.object(3, 6), 72);
        same("14: first", s.cancel(3), 2);
        same("14: approval is gone", s.object(3, 6), -1);
        same("14: empty again", s.cancel(3), -4);
        same("14: refusals are not undone", s.count(12), 5);
        Check.noObject("14: object", () -> s.cancel(4));
        Check.noObject("14: object", () -> s.cancel(-1));
    }

    static void promise15() {
        CountedStudio s = shop();
        same("15: empty", s.clearQueue(3), -4);
        s.plan(3, 2);
        s.plan(3, 1);
        s.approve(3);
        same("15: two", s.clearQueue(3), 2);
        same("15: approval is gone", s.object(3, 6), -1);
        same("15: empty now", s.object(3, 5), 0);
        same("15: none", s.queued(3, 0), -1);
        same("15: again", s.clearQueue(3), -4);
        Check.noObject("15: object", () -> s.clearQueue(4));
        Check.noObject("15: object", () -> s.clearQueue(-1));
    }

    static void promise16() {
        CountedStudio s = shop();
        s.plan(3, 2);
        s.plan(3, 1);
        s.plan(3, 0);
        s.plan(3, 2);
        s.approve(3);
        same("16: places 1 and 2", s.exchange(3, 1, 2), 0);
        same("16: place 2", s.queued(3, 2), 1);
        same("16: approval stays", s.object(3, 6), 72);
        same("16: same recipes", s.exchange(3, 3, 0), 2);
        same("16: approval is gone", s.object(3, 6), -1);
        same("16: first and second", s.exchange(3, 0, 1), 0);
        same("16: place 1", s.queued(3, 1), 2);
        same("16: same place", s.exchange(3, 1, 1), -4);
        same("16: no such place", s.exchange(3, 4, 0), -4);
        same("16: no such other", s.exchange(3, 0, 4), -4);
        same("16: below", s.exchange(3, -1, 0), -4);
        same("16: other below", s.exchange(3, 0, -1), -4);
        same("16: far", s.exchange(3, MIN, MAX), -4);
        same("16: empty queue", s.exchange(0, 0, 1), -4);
        Check.noObject("16: object", () -> s.exchange(4, 0, 0));
        Check.noObject("16: object", () -> s.exchange(-1, 0, 1));
        s.exchange(3, 0, 1);
        s.approve(3);
        same("16: other is 0", s.exchange(3, 2, 0), 2);
        same("16: approval is gone then", s.object(3, 6), -1);
    }

    static void promise17() {
        CountedStudio s = shop();
        same("17: empty", s.approve(3), -4);
        s.plan(3, 0);
        same("17: level 0 and guard 2 need none", s.approve(3), -4);
        s.plan(1, 2);
        same("17: level 3 and guard 1 need one", s.approve(1), 72);
        s.plan(2, 1);
        same("17: level 1 and guard 3 need one", s.approve(2), 72);
        same("17: again", s.approve(2), 72);
        s.tick(5);
        same("17: later", s.approve(2), 77);
        same("17: in place of the earlier", s.object(2, 6), 77);
        s.plan(1, 2);
        s.plan(1, 2);
        s.tick(1);
        same("17: also ahead of its turn", s.approve(1), 78);
        Check.noObject("17: object", () -> s.approve(4));
        Check.noObject("17: object", () -> s.approve(-1));
    }

    static void promise18() {
        CountedStudio s = shop();
        same("18: urgency", s.lend(0, 20000, 1000, 500), 20000);
        same("18: waits already", s.lend(0, 1, 1, 1), -4);
        same("18: due 0", s.lend(1, 0, 0, 1), 0);
        Check.noObject("18: object first", () -> s.lend(4, -1, 0, 1));
        Check.noObject("18: object", () -> s.lend(-1, 0, 0, 1));
        Check.badValue("18: due", () -> s.lend(2, -1, 0, 1));
        Check.badValue("18: due", () -> s.lend(2, 20001, 0, 1));
        Check.badValue("18: minimum", () -> s.lend(2, 0, -1, 1));
        Check.badValue("18: minimum", () -> s.lend(2, 0, 1001, 1));
        Check.badValue("18: length", () -> s.lend(2, 0, 0, 0));
        Check.badValue("18: length", () -> s.lend(2, 0, 0, 501));
        Check.badValue("18: ahead of the refusal", () -> s.lend(0, 0, 0, 501));
        same("18: nothing of it", s.loan(2, 0), -1);
        s.tick(1);
        same("18: lent", s.object(1, 3), 4);
        same("18: the next loan waits already", s.lend(1, 9, 0, 1), 9);
        s.tick(9);
        // back in the hour 1, lent again at 9 for an hour, back with 860 in the hour 10
        same("18: lent again at its due", s.object(1, 3), 4);
        s.tick(1);
        same("18: twice lent", s.object(1, 1), 860);
    }

    static void promise19() {
        CountedStudio s = shop();
        same("19: none", s.recall(0), -4);
        s.lend(0, 30, 0, 5);
        same("19: due", s.recall(0), 30);
        same("19: none again", s.recall(0), -4);
        same("19: urgency", s.object(0, 10), 30000);
        s.lend(0, 0, 0, 5);
        s.tick(1);
        same("19: lent already", s.recall(0), -4);
        Check.noObject("19: object", () -> s.recall(4));
        Check.noObject("19: object", () -> s.recall(-1));
    }

    static void promise20() {
        CountedStudio s = shop();
        Check.badValue("20: 0", () -> s.tick(0));
        Check.badValue("20: -1", () -> s.tick(-1));
        Check.badValue("20: 1001", () -> s.tick(1001));
        Check.badValue("20: far", () -> s.tick(MAX));
        same("20: nothing went by", s.count(4), 0);
        for (int n = 1; n <= 19; n++) same("20: tick", s.tick(1000), 1000 * n);
        same("20: to 19999", s.tick(999), 19999);
        same("20: too far", s.tick(2), -2);
        same("20: too far", s.tick(1000), -2);
        same("20: stays", s.count(4), 19999);
        same("20: last", s.tick(1), 20000);
        same("20: no more", s.tick(1), -2);
        Check.badValue("20: still checked", () -> s.tick(0));
    }

    static void promise21() {
        CountedStudio s = shop();
        same("21: empty queue", s.reason(0), 2);
        s.plan(0, 0);
        same("21: can begin", s.reason(0), 0);
        s.plan(2, 1);
        same("21: no press, ahead of the approval", s.reason(2), 3);
        s.plan(3, 2);
        same("21: no approval", s.reason(3), 4);
        s.approve(3);
        same("21: approved", s.reason(3), 0);
        s.tick(1);
        same("21: not on the shelf", s.reason(0), 1);
        same("21: no bench", s.reason(3), 6);
        CountedStudio t = Check.loaded("life 3;recipe 9 0 0 3 0 0 1;object 1 1 1;object 1 1 0;");
        t.plan(1, 0);
        t.lend(1, 0, 1000, 1);
        t.plan(0, 0);
        t.approve(0);
        t.tick(2);
        same("21: one hour left", t.reason(0), 6);
        t.tick(1);
        same("21: ended, ahead of the bench", t.reason(0), 5);
        Check.noObject("21: object", () -> s.reason(4));
        Check.noObject("21: object", () -> s.reason(-1));
        CountedStudio u = Check.loaded("recipe 1 0 1 0 0 0 1;object 1 1 0;");
        u.plan(0, 0);
        same("21: PRESS 1 also without CURE", u.reason(0), 3);
    }

    static void promise22() {
        CountedStudio s = shop();
        same("22: of 2", s.cause(0), -1);
        s.plan(0, 0);
        same("22: of 0", s.cause(0), -1);
        s.plan(2, 1);
        same("22: of 3", s.cause(2), 50);
        s.plan(3, 2);
        same("22: of 4", s.cause(3), -1);
        s.tick(1);
        same("22: of 1", s.cause(0), 1);
        s.approve(3);
        same("22: of 6", s.cause(3), -1);
        s.tick(73);
        CountedStudio t = Check.loaded("life 3;recipe 40 0 0 3 0 0 1;recipe 1 1 1 0 0 0 1;object 1 1 1;object 1 100 0;object 1 1 0;");
        t.plan(1, 0);
        t.lend(1, 0, 1000, 1);
        t.plan(0, 0);
        t.approve(0);
        t.plan(2, 1);
        t.tick(3);
        same("22: of 5", t.cause(0), 3);
        same("22: of 3 without presses", t.cause(2), 0);
        t.lend(2, 0, 0, 9);
        t.clearQueue(2);
        t.tick(1);
        same("22: of 1, lent", t.cause(2), 4);
        CountedStudio u = Check.loaded("benches 2;press 1;recipe 1 9 1 0 0 0 1;object 1 1 0;object 1 1 0;");
        u.plan(0, 0);
        u.plan(1, 0);
        u.tick(2);
        same("22: of 1, cures", u.cause(0), 3);
        same("22: of 1, waits", u.cause(1), 2);
        Check.noObject("22: object", () -> s.cause(4));
        Check.noObject("22: object", () -> s.cause(-1));
    }

    static void promise23() {
        CountedStudio s = shop();
        same("23: all empty", s.objectsWith(2), 15);
        s.plan(0, 0);
        s.plan(2, 1);
        s.plan(3, 2);
        same("23: can begin", s.objectsWith(0), 1);
        same("23: no press", s.objectsWith(3), 4);
        same("23: no approval", s.objectsWith(4), 8);
        s.approve(3);
        s.tick(1);
        same("23: not on the shelf", s.objectsWith(1), 1);
        same("23: no bench", s.objectsWith(6), 8);
        same("23: ended", s.objectsWith(5), 0);
        CountedStudio t = Check.loaded("life 1;recipe 40 0 0 3 0 0 1;object 1 1 0;object 1 1 1;");
        t.plan(0, 0);
        t.plan(1, 0);
        t.approve(1);
        t.tick(1);
        same("23: ended now", t.objectsWith(5), 2);
        Check.badValue("23: below", () -> s.objectsWith(-1));
        Check.badValue("23: above", () -> s.objectsWith(7));
        same("23: none", new CountedStudio().objectsWith(2), 0);
    }

    static void promise24() {
        CountedStudio s = shop();
        same("24: none", s.next(), -1);
        s.plan(3, 0);
        s.plan(1, 0);
        same("24: the lowest", s.next(), 1);
        s.lend(3, 20000, 0, 1);
        same("24: a loan is more urgent", s.next(), 3);
        s.lend(1, 20000, 0, 1);
        same("24: the same DUE", s.next(), 1);
        s.lend(2, 0, 0, 1);
        same("24: cannot begin", s.next(), 1);
        s.tick(1);
        same("24: no bench", s.next(), -1);
        same("24: it began", s.object(1, 3), 1);
    }

    static void promise25() {
        CountedStudio s = shop();
        same("25: 0 and 3", s.needsApproval(2, 0), false);
        same("25: 1 and 3", s.needsApproval(2, 1), true);
        same("25: 3 and 0", s.needsApproval(0, 2), false);
        same("25: 3 and 1", s.needsApproval(1, 2), true);
        same("25: 2 and 2", s.needsApproval(3, 3), true);
        same("25: 1 and 2", s.needsApproval(3, 1), false);
        Check.noObject("25: object", () -> s.needsApproval(4, 0));
        Check.noObject("25: object", () -> s.needsApproval(-1, 0));
        Check.noObject("25: recipe", () -> s.needsApproval(0, 4));
        Check.noObject("25: recipe", () -> s.needsApproval(0, -1));
    }

    static void promise26() {
        CountedStudio s = shop();
        same("26: empty", s.approvalsAhead(2), 0);
        s.plan(2, 0);
        s.plan(2, 1);
        s.plan(2, 2);
        s.plan(2, 1);
        same("26: three of four", s.approvalsAhead(2), 3);
        Check.noObject("26: object", () -> s.approvalsAhead(4));
        Check.noObject("26: object", () -> s.approvalsAhead(-1));
    }

    static void promise27() {
        CountedStudio s = shop();
        same("27: the lowest of the least", s.pressFor(0), 0);
        same("27: exactly", s.pressFor(3), 0);
        same("27: the great one", s.pressFor(1), 1);
        same("27: too small", s.pressFor(2), -1);
        s.plan(0, 1);
        s.tick(2);
        same("27: object 0 is in it", s.press(0, 1), 0);
        same("27: as if it were free", s.pressFor(3), 0);
        Check.noObject("27: object", () -> s.pressFor(4));
        Check.noObject("27: object", () -> s.pressFor(-1));
        same("27: the least comes later", Check.loaded("press 9;press 5;press 7;object 5 1 1;").pressFor(0), 1);
    }

    static void promise28() {
        CountedStudio s = shop();
        same("28: base", s.scoreAfter(0, 0), 500);
        same("28: to at most 1000", s.scoreAfter(1, 0), 1000);
        same("28: rate", s.scoreAfter(0, 1), 700);
        same("28: both", s.scoreAfter(2, 2), 130);
        same("28: nothing", s.scoreAfter(3, 3), 400);
        same("28: rounded down", Check.loaded("recipe 1 0 0 0 1 33 1;object 1 995 0;").scoreAfter(0, 0), 997);
        same("28: not done", s.object(0, 1), 400);
        same("28: above 1000", Check.loaded("recipe 1 0 0 0 500 100 1;object 1 900 0;").scoreAfter(0, 0), 1000);
        Check.noObject("28: object", () -> s.scoreAfter(4, 0));
        Check.noObject("28: object", () -> s.scoreAfter(-1, 0));
        Check.noObject("28: recipe", () -> s.scoreAfter(0, 4));
        Check.noObject("28: recipe", () -> s.scoreAfter(0, -1));
    }

    static void promise29() {
        CountedStudio s = shop();
        same("29: empty", s.scoreAhead(0), 400);
        s.plan(0, 0);
        s.plan(0, 1);
        same("29: 500, then 750", s.scoreAhead(0), 750);
        s.exchange(0, 0, 1);
        same("29: 700, then 800", s.scoreAhead(0), 800);
        s.tick(1);
        same("29: what goes on is not in it", s.scoreAhead(0), 500);
        Check.noObject("29: object", () -> s.scoreAhead(4));
        Check.noObject("29: object", () -> s.scoreAhead(-1));
    }

    static void promise30() {
        CountedStudio s = shop();
        // of 400: 100/2, 300/6, 90/4 and 0/5
        same("30: the lowest of the same", s.bestRecipe(0), 0);
        // of 900: 100/2, 50/6, 40/4
        same("30: object 1", s.bestRecipe(1), 0);
        same("30: none", Check.loaded("recipe 1 0 0 0 500 100 1;object 1 1000 0;").bestRecipe(0), -1);
        same("30: no recipes", Check.loaded("object 1 100 0;").bestRecipe(0), -1);
        same("30: exact", Check.loaded("recipe 3 0 0 0 100 0 1;recipe 40 199 0 0 0 0 1;recipe 40 200 0 0 500 0 1;recipe 2 0 0 0 67 0 1;object 1 0 0;").bestRecipe(0), 3);
        same("30: CURE counts", Check.loaded("recipe 1 2 0 0 100 0 1;recipe 2 0 0 0 80 0 1;object 1 0 0;").bestRecipe(0), 1);
        // 333/10 and 100/3 differ by 1/30
        same("30: close by", Check.loaded("recipe 10 0 0 0 333 0 1;recipe 3 0 0 0 100 0 1;object 1 0 0;").bestRecipe(0), 1);
        Check.noObject("30: object", () -> s.bestRecipe(4));
        Check.noObject("30: object", () -> s.bestRecipe(-1));
    }

    static void promise31() {
        CountedStudio s = shop();
        same("31: there already", s.stepsTo(0, 0, 400), 0);
        same("31: one", s.stepsTo(0, 0, 401), 1);
        same("31: one exactly", s.stepsTo(0, 0, 500), 1);
        same("31: six", s.stepsTo(0, 0, 1000), 6);
        // 0, 500, 750, 875, 937, 968, 984, 992, 996, 998, 999, 999
        same("31: ten", s.stepsTo(2, 1, 999), 10);
        same("31: never", s.stepsTo(2, 1, 1000), -1);
        same("31: nothing", s.stepsTo(0, 3, 401), -1);
        same("31: nothing is enough", s.stepsTo(0, 3, 0), 0);
        same("31: a thousand", Check.loaded("recipe 1 0 0 0 1 0 1;object 1 0 0;").stepsTo(0, 0, 1000), 1000);
        Check.noObject("31: object", () -> s.stepsTo(4, 0, -1));
        Check.noObject("31: recipe", () -> s.stepsTo(0, 4, -1));
        Check.noObject("31: recipe", () -> s.stepsTo(0, -1, 5));
        Check.badValue("31: target", () -> s.stepsTo(0, 0, -1));
        Check.badValue("31: target", () -> s.stepsTo(0, 0, 1001));
    }

    static void promise32() {
        CountedStudio s = shop();
        same("32: there already", s.quickestTo(0, 399), 0);
        same("32: 0 is a target", s.quickestTo(2, 0), 0);
        same("32: exactly there", s.quickestTo(0, 400), 0);
        same("32: one step", s.quickestTo(0, 401), 2);
        // 400 to 700 by recipe 1 in 6 hours, or by three of recipe 0
        same("32: 700", s.quickestTo(0, 700), 6);
        same("32: 701", s.quickestTo(0, 701), 8);
        // greedy takes 60 and 60 (20 hours); 60 and 40 are enough in 16
        CountedStudio t = Check.loaded("recipe 10 0 0 0 60 0 1;recipe 6 0 0 0 40 0 9;recipe 1 0 0 0 0 0 1;object 1 0 0;object 1 950 0;");
        same("32: mixed", t.quickestTo(0, 100), 16);
        same("32: mixed", t.quickestTo(0, 120), 18);
        same("32: far", t.quickestTo(0, 1000), 150);
        same("32: beyond", t.quickestTo(1, 1000), 10);
        same("32: never", Check.loaded("recipe 1 0 0 0 0 99 1;object 1 0 0;").quickestTo(0, 1000), -1);
        same("32: no recipes", Check.loaded("object 1 0 0;").quickestTo(0, 1), -1);
        same("32: 240000", Check.loaded("recipe 40 200 0 0 1 0 1;object 1 0 0;").quickestTo(0, 1000), 240000);
        Check.noObject("32: object", () -> s.quickestTo(4, -1));
        Check.noObject("32: object", () -> s.quickestTo(-1, 1));
        Check.badValue("32: target", () -> s.quickestTo(0, -1));
        Check.badValue("32: target", () -> s.quickestTo(0, 1001));
    }

    static void promise33() {
        CountedStudio s = shop();
        same("33: there already", s.cheapestTo(0, 400), 0L);
        same("33: 0 is a target", s.cheapestTo(2, 0), 0L);
        // from 0: the steps over the score 0 itself count, too
        same("33: from 0", s.cheapestTo(2, 500), 7L);
        // recipe 1 costs 7 and comes from 400 to 700
        same("33: 700", s.cheapestTo(0, 700), 7L);
        same("33: 701", s.cheapestTo(0, 701), 14L);
        // 400, 700, 850, 925, then recipe 0
        same("33: 1000", s.cheapestTo(0, 1000), 41L);
        same("33: great", Check.loaded("recipe 40 0 0 0 1 0 100000000;object 1 0 0;").cheapestTo(0, 1000), 4000000000000L);
        same("33: never", Check.loaded("recipe 1 0 0 0 0 99 1;object 1 0 0;").cheapestTo(0, 1000), -1L);
        Check.noObject("33: object", () -> s.cheapestTo(4, -1));
        Check.noObject("33: object", () -> s.cheapestTo(-1, 1));
        Check.badValue("33: target", () -> s.cheapestTo(0, -1));
        Check.badValue("33: target", () -> s.cheapestTo(0, 1001));
    }

    static void promise34() {
        CountedStudio s = shop();
        same("34: empty", s.hoursAhead(0), 0);
        s.plan(0, 1);
        s.plan(0, 0);
        s.plan(0, 3);
        same("34: 6, 2 and 5", s.hoursAhead(0), 13);
        s.tick(1);
        same("34: what goes on is not in it", s.hoursAhead(0), 7);
        Check.noObject("34: object", () -> s.hoursAhead(4));
        Check.noObject("34: object", () -> s.hoursAhead(-1));
    }

    /** Owes 2 steps of 1000000000 and one of 147483647: exactly 2147483647. */
    private static CountedStudio owing(int more) {
        CountedStudio s = Check.loaded("recipe 10 0 0 0 0 0 100000000;recipe 1 0 0 0 0 0 100000000;recipe 1 0 0 0 0 0 47483647;recipe 1 0 0 0 0 0 1;object 1 1 0;object 1 1 0;");
        int[] row = {0, 0, 1, 2};
        for (int recipe : row) s.plan(0, recipe);
        for (int n = 0; n < more; n++) s.plan(0, 3);
        return s;
    }

    static void promise35() {
        CountedStudio s = owing(0);
        same("35: nothing", s.bill(0), 0);
        s.tick(10);
        same("35: not done yet", s.bill(0), 0);
        s.tick(1);
        same("35: done", s.bill(0), 1000000000);
        s.tick(30);
        same("35: as much as an int holds", s.bill(0), MAX);
        same("35: other", s.bill(1), 0);
        CountedStudio t = owing(1);
        t.tick(41);
        Check.throwsExactly("35: one more", ArithmeticException.class, () -> t.bill(0));
        for (int n = 0; n < 2; n++) t.plan(0, 0);
        t.tick(40);
        Check.throwsExactly("35: beyond two to the 32nd", ArithmeticException.class, () -> t.bill(0));
        Check.noObject("35: object", () -> t.bill(2));
        Check.noObject("35: object", () -> t.bill(-1));
    }

    static void promise36() {
        CountedStudio s = owing(0);
        same("36: nothing", s.allBills(), 0);
        s.tick(41);
        same("36: as much as an int holds", s.allBills(), MAX);
        s.plan(1, 3);
        s.tick(3);
        same("36: each is told", s.bill(1), 1);
        Check.throwsExactly("36: together", ArithmeticException.class, () -> s.allBills());
        same("36: no objects", new CountedStudio().allBills(), 0);
    }

    static void promise37() {
        CountedStudio s = owing(0);
        same("37: all of the queue", s.billAhead(0), MAX);
        same("37: none", s.billAhead(1), 0);
        s.tick(1);
        same("37: what goes on is in neither", s.billAhead(0), 1147483647);
        s.tick(10);
        same("37: owed and ahead", s.billAhead(0), 1147483647 + 0);
        s.tick(1);
        CountedStudio t = owing(1);
        Check.throwsExactly("37: one more", ArithmeticException.class, () -> t.billAhead(0));
        t.cancel(0);
        same("37: one less", t.billAhead(0), MAX);
        Check.noObject("37: object", () -> t.billAhead(2));
        Check.noObject("37: object", () -> t.billAhead(-1));
    }

    private static void row(String what, CountedStudio s, int index, int... due) {
        for (int k = 0; k < due.length; k++) same(what + " " + k, s.record(index, k), due[k]);
    }

    static void promise38() {
        CountedStudio s = shop();
        Check.noObject("38: none", () -> s.record(0, 0));
        s.plan(0, 1);
        s.plan(3, 1);
        s.lend(0, 0, 0, 2);
        s.tick(12);
        row("38: step", s, 0, 0, 0, 1, 1, 400, 700);
        row("38: press", s, 1, 0, 1, 1, 1, 700, 700);
        row("38: step", s, 2, 3, 0, 1, 2, 400, 700);
        row("38: press", s, 3, 3, 1, 1, 2, 700, 700);
        // object 0 cures until the hour 6, is lent in it and back in the hour 8
        row("38: loan", s, 4, 0, 2, -1, 8, 700, 680);
        same("38: five", s.count(8), 5);
        same("38: other", s.record(0, 6), -1);
        same("38: other", s.record(0, -1), -1);
        Check.noObject("38: above", () -> s.record(5, 0));
        Check.noObject("38: below", () -> s.record(-1, 0));
        Check.noObject("38: far", () -> s.record(MAX, 9));
        CountedStudio t = Check.loaded("recipe 1 0 0 0 1 0 1;object 1 0 0;");
        for (int n = 1; n <= 103; n++) {
            t.plan(0, 0);
            t.tick(2);
            t.looking(true);
            same("38: kept", t.count(8), Math.min(n, 100));
            same("38: latest", t.record(t.count(8) - 1, 5), n);
            same("38: oldest", t.record(0, 5), Math.max(1, n - 99));
            t.looking(false);
        }
        same("38: time of the oldest", t.record(0, 3), 7);
        Check.noObject("38: a hundred", () -> t.record(100, 0));
        t.undo();
        t.undo();
        same("38: undone", t.record(99, 5), 102);
        same("38: the oldest is back", t.record(0, 5), 3);
        CountedStudio low = Check.loaded("object 1 19 0;");
        low.lend(0, 0, 0, 1);
        low.tick(2);
        row("38: not below 0", low, 0, 0, 2, -1, 1, 19, 0);
    }

    static void promise39() {
        CountedStudio s = shop();
        same("39: none", s.recordsOf(0, 0), 0);
        s.plan(0, 1);
        s.plan(0, 0);
        s.plan(3, 0);
        s.lend(0, 0, 0, 2);
        s.tick(30);
        same("39: steps", s.recordsOf(0, 0), 2);
        same("39: presses", s.recordsOf(0, 1), 1);
        same("39: loans", s.recordsOf(0, 2), 1);
        same("39: other object", s.recordsOf(3, 0), 1);
        same("39: no loans of it", s.recordsOf(3, 2), 0);
        Check.noObject("39: object first", () -> s.recordsOf(4, 3));
        Check.noObject("39: object", () -> s.recordsOf(-1, 0));
        Check.badValue("39: kind", () -> s.recordsOf(0, 3));
        Check.badValue("39: kind", () -> s.recordsOf(0, -1));
    }

    static void promise40() {
        CountedStudio s = shop();
        same("40: none", s.latestRecord(0), -1);
        s.plan(0, 0);
        s.plan(0, 0);
        s.plan(3, 0);
        s.lend(3, 0, 1000, 2);
        s.tick(20);
        // object 3 is more urgent and begins first
        same("40: object 3", s.latestRecord(3), 0);
        same("40: object 0", s.latestRecord(0), 2);
        same("40: none of it", s.latestRecord(1), -1);
        Check.noObject("40: object", () -> s.latestRecord(4));
        Check.noObject("40: object", () -> s.latestRecord(-1));
    }

    /** Two objects for one press: 0 cures in it in the hours 1 to 4, 1 waits from the hour 2 and comes in in 4. */
    private static CountedStudio waiting() {
        CountedStudio s = Check.loaded("press 9;recipe 1 3 1 0 5 0 1;object 9 100 0;object 9 200 0;");
        s.plan(0, 0);
        s.plan(1, 0);
        return s;
    }

    static void promise41() {
        CountedStudio s = waiting();
        same("41: nothing", s.lost(1), 0);
        s.tick(4);
        same("41: told when it ends", s.lost(1), 0);
        same("41: but lost", s.object(1, 1), 204);
        s.tick(1);
        same("41: two", s.lost(1), 2);
        same("41: none", s.lost(0), 0);
        row("41: record", s, 3, 1, 1, 0, 4, 205, 203);
        s.lend(1, 0, 0, 1);
        s.tick(9);
        same("41: loans do not count", s.lost(1), 2);
        same("41: loan came", s.object(1, 1), 183);
        CountedStudio oldest = waiting();
        oldest.tick(8);
        for (int n = 0; n < 99; n++) {
            oldest.lend(0, 0, 0, 1);
            oldest.tick(2);
        }
        same("41: the oldest one that is kept", oldest.record(0, 1), 1);
        same("41: it counts", oldest.lost(1), 2);
        oldest.lend(0, 0, 0, 1);
        oldest.tick(2);
        same("41: it is gone", oldest.lost(1), 0);
        Check.noObject("41: object", () -> s.lost(2));
        Check.noObject("41: object", () -> s.lost(-1));
    }

    static void promise42() {
        CountedStudio s = waiting();
        same("42: nothing", s.recorded(1), 0);
        s.tick(5);
        same("42: five less two", s.recorded(1), 3);
        same("42: five", s.recorded(0), 5);
        s.lend(1, 0, 0, 1);
        s.tick(9);
        same("42: with the loan", s.recorded(1), -17);
        same("42: the score follows", s.object(1, 1), 200 - 17);
        Check.noObject("42: object", () -> s.recorded(2));
        Check.noObject("42: object", () -> s.recorded(-1));
    }

    static void promise43() {
        CountedStudio s = waiting();
        same("43: in time", s.readyAt(0, 500), 5);
        same("43: just in time", s.readyAt(0, 5), 5);
        same("43: too early", s.readyAt(0, 4), -1);
        same("43: the second", s.readyAt(1, 8), 8);
        same("43: not done", s.count(4), 0);
        same("43: score stays", s.object(1, 1), 200);
        s.tick(8);
        same("43: now", s.readyAt(1, 1), 8);
        s.lend(1, 0, 0, 10);
        same("43: still now", s.readyAt(1, 1), 8);
        s.tick(1);
        same("43: lent until 18", s.readyAt(1, 20), 19);
        Check.noObject("43: object first", () -> s.readyAt(2, 0));
        Check.noObject("43: object", () -> s.readyAt(-1, 1));
        Check.badValue("43: hours", () -> s.readyAt(0, 0));
        Check.badValue("43: hours", () -> s.readyAt(0, 501));
        CountedStudio late = waiting();
        late.undo();
        late.undo();
        for (int n = 0; n < 19; n++) late.tick(1000);
        late.tick(995);
        late.plan(0, 0);
        late.plan(1, 0);
        same("43: just at 20000", late.readyAt(0, 500), 20000);
        same("43: not at 20000", late.readyAt(1, 500), -1);
        late.tick(5);
        same("43: ready at 20000", late.readyAt(0, 1), 20000);
        same("43: nor at 20000", late.readyAt(1, 1), -1);
    }

    static void promise44() {
        CountedStudio s = waiting();
        same("44: before", s.scoreIn(1, 2), 200);
        same("44: step", s.scoreIn(1, 3), 205);
        same("44: waits", s.scoreIn(1, 4), 204);
        same("44: in the press", s.scoreIn(1, 5), 203);
        same("44: later", s.scoreIn(1, 500), 203);
        same("44: nothing is done", s.object(1, 1), 200);
        same("44: undo counts", s.count(12), 2);
        Check.noObject("44: object first", () -> s.scoreIn(2, 0));
        Check.noObject("44: object", () -> s.scoreIn(-1, 1));
        Check.badValue("44: hours", () -> s.scoreIn(0, 0));
        Check.badValue("44: hours", () -> s.scoreIn(0, 501));
        CountedStudio late = Check.loaded("recipe 3 0 0 0 5 0 1;object 1 100 0;");
        for (int n = 0; n < 19; n++) late.tick(1000);
        late.tick(996);
        late.plan(0, 0);
        same("44: at 20000", late.scoreIn(0, 500), 105);
        late.tick(1);
        late.undo();
        late.tick(1);
        late.cancel(0);
        late.plan(0, 0);
        same("44: one step fits", late.scoreIn(0, 500), 105);
        late.tick(3);
        same("44: no hour is left", late.scoreIn(0, 500), 105);
        CountedStudio later = Check.loaded("recipe 4 0 0 0 5 0 1;object 1 100 0;");
        for (int n = 0; n < 19; n++) later.tick(1000);
        later.tick(996);
        later.plan(0, 0);
        same("44: an hour is missing", later.scoreIn(0, 500), 100);
    }

    static void promise45() {
        CountedStudio s = Check.loaded("recipe 1 0 0 0 100 0 1;object 1 100 0;object 1 100 0;object 1 1 0;");
        s.lend(0, 2, 0, 3);
        s.lend(1, 0, 200, 500);
        s.lend(2, 3, 0, 1);
        same("45: none", s.lentIn(2), 0);
        same("45: at its due", s.lentIn(3), 1);
        same("45: both", s.lentIn(4), 5);
        same("45: the last one", s.lentIn(5), 1);
        same("45: back", s.lentIn(6), 0);
        s.plan(1, 0);
        same("45: good enough then", s.lentIn(2), 2);
        same("45: long", s.lentIn(500), 2);
        same("45: nothing is done", s.objectsIn(4), 0);
        Check.badValue("45: hours", () -> s.lentIn(0));
        Check.badValue("45: hours", () -> s.lentIn(501));
        for (int n = 0; n < 20; n++) s.tick(1000);
        s.lend(2, 0, 0, 1);
        same("45: no hour goes by", s.lentIn(500), 0);
    }

    static void promise46() {
        CountedStudio s = Check.loaded("benches 3;recipe 2 0 0 0 0 0 1;object 1 1 0;object 1 1 0;object 1 1 0;object 1 1 0;");
        same("46: nothing to do", s.bestBenches(200), 1);
        s.plan(0, 0);
        s.plan(1, 0);
        same("46: two at once", s.bestBenches(3), 2);
        same("46: one does it, too", s.bestBenches(5), 1);
        same("46: too short", s.bestBenches(2), 1);
        s.plan(2, 0);
        s.plan(3, 0);
        same("46: four", s.bestBenches(3), 4);
        same("46: two in time", s.bestBenches(5), 2);
        same("46: benches stay", s.count(0), 3);
        s.tick(1);
        // three go on whatever comes: one bench or two are as good for these
        same("46: what is at a bench goes on", s.bestBenches(2), 1);
        same("46: the fourth needs a fourth bench", s.bestBenches(3), 4);
        same("46: behind the others", s.bestBenches(5), 1);
        Check.badValue("46: hours", () -> s.bestBenches(0));
        Check.badValue("46: hours", () -> s.bestBenches(201));
        for (int n = 0; n < 19; n++) s.tick(1000);
        s.tick(998);
        s.plan(0, 0);
        s.plan(1, 0);
        same("46: no time", s.bestBenches(200), 1);
    }

    static void promise47() {
        CountedStudio s = waiting();
        same("47: all ready", s.quietAt(8), 8);
        same("47: too early", s.quietAt(7), -1);
        s.tick(8);
        same("47: now", s.quietAt(1), 8);
        s.lend(0, 0, 0, 50);
        s.tick(1);
        same("47: lent is quiet", s.quietAt(1), 9);
        s.plan(0, 0);
        same("47: what cannot begin is quiet", s.quietAt(1), 9);
        s.plan(1, 0);
        same("47: what can begin is not", s.quietAt(3), -1);
        same("47: then it is", s.quietAt(5), 14);
        CountedStudio t = Check.loaded("recipe 1 1 0 3 0 0 1;object 1 1 1;");
        t.plan(0, 0);
        same("47: not approved", t.quietAt(1), 0);
        t.approve(0);
        same("47: approved", t.quietAt(3), 3);
        Check.badValue("47: hours", () -> t.quietAt(0));
        Check.badValue("47: hours", () -> t.quietAt(501));
        same("47: nothing there", new CountedStudio().quietAt(500), 0);
        t.undo();
        for (int n = 0; n < 19; n++) t.tick(1000);
        t.tick(997);
        t.approve(0);
        same("47: at 20000", t.quietAt(500), 20000);
        t.undo();
        t.tick(1);
        t.approve(0);
        same("47: behind 20000", t.quietAt(500), -1);
    }

    static void promise48() {
        CountedStudio s = shop();
        same("48: none", s.lateness(0), -1);
        s.lend(0, 3, 900, 1);
        same("48: early", s.lateness(0), 0);
        s.tick(3);
        same("48: at its due", s.lateness(0), 0);
        s.tick(2);
        same("48: late", s.lateness(0), 2);
        s.recall(0);
        same("48: none again", s.lateness(0), -1);
        Check.noObject("48: object", () -> s.lateness(4));
        Check.noObject("48: object", () -> s.lateness(-1));
    }

    static void promise49() {
        CountedStudio s = shop();
        same("49: none", s.mostUrgent(), -1);
        s.lend(3, 20000, 0, 1);
        same("49: only one", s.mostUrgent(), 3);
        s.lend(1, 20000, 0, 1);
        same("49: the lowest", s.mostUrgent(), 1);
        s.lend(2, 19999, 0, 1);
        same("49: the least", s.mostUrgent(), 2);
    }

    static void promise50() {
        CountedStudio s = shop();
        same("50: none", s.waitingLoan(0), -1);
        s.lend(3, 7, 0, 1);
        s.lend(0, 9, 0, 1);
        s.lend(1, 7, 0, 1);
        same("50: first", s.waitingLoan(0), 1);
        same("50: second", s.waitingLoan(1), 3);
        same("50: third", s.waitingLoan(2), 0);
        same("50: no more", s.waitingLoan(3), -1);
        same("50: below", s.waitingLoan(-1), -1);
        same("50: far", s.waitingLoan(MIN), -1);
        same("50: far", s.waitingLoan(MAX), -1);
    }

    static void promise51() {
        CountedStudio s = shop();
        s.plan(0, 0);
        s.plan(1, 0);
        s.plan(1, 1);
        s.tick(2);
        same("51: not done yet", s.uses(0), 0);
        s.tick(1);
        same("51: done", s.uses(0), 1);
        s.tick(20);
        same("51: two", s.uses(0), 2);
        same("51: one", s.uses(1), 1);
        same("51: none", s.uses(2), 0);
        Check.noObject("51: recipe", () -> s.uses(4));
        Check.noObject("51: recipe", () -> s.uses(-1));
        Check.input(s, SHOP);
        s.load();
        same("51: since load()", s.uses(0), 0);
    }

    static void promise52() {
        CountedStudio s = waiting();
        same("52: none", s.pressUse(0), 0);
        s.tick(2);
        same("52: one", s.pressUse(0), 1);
        s.tick(2);
        same("52: still", s.pressUse(0), 1);
        s.tick(1);
        same("52: two", s.pressUse(0), 2);
        Check.noObject("52: press", () -> s.pressUse(1));
        Check.noObject("52: press", () -> s.pressUse(-1));
        Check.input(s, SHOP);
        s.load();
        same("52: since load()", s.pressUse(0), 0);
    }

    static void promise53() {
        CountedStudio s = shop();
        same("53: none", s.inQueues(0), 0);
        s.plan(0, 0);
        s.plan(0, 0);
        s.plan(2, 0);
        s.plan(2, 3);
        same("53: three", s.inQueues(0), 3);
        same("53: one", s.inQueues(3), 1);
        s.tick(1);
        same("53: one began", s.inQueues(0), 2);
        Check.noObject("53: recipe", () -> s.inQueues(4));
        Check.noObject("53: recipe", () -> s.inQueues(-1));
    }

    static void promise54() {
        CountedStudio s = waiting();
        same("54: free", s.dryIn(0), 0);
        s.tick(2);
        same("54: full", s.dryIn(0), 3);
        s.tick(2);
        same("54: nearly", s.dryIn(0), 1);
        s.tick(1);
        same("54: the next", s.dryIn(0), 3);
        s.tick(3);
        same("54: free again", s.dryIn(0), 0);
        Check.noObject("54: press", () -> s.dryIn(1));
        Check.noObject("54: press", () -> s.dryIn(-1));
    }

    static void promise55() {
        CountedStudio s = shop();
        same("55: the same score", s.rank(0), 1);
        same("55: the same score", s.rank(3), 1);
        same("55: the best", s.rank(1), 3);
        same("55: the worst", s.rank(2), 0);
        Check.noObject("55: object", () -> s.rank(4));
        Check.noObject("55: object", () -> s.rank(-1));
    }

    static void promise56() {
        CountedStudio s = shop();
        same("56: none", s.below(0), 0);
        same("56: one", s.below(1), 4);
        same("56: not itself", s.below(400), 4);
        same("56: three", s.below(401), 13);
        same("56: all", s.below(MAX), 15);
        same("56: least", s.below(MIN), 0);
        same("56: sixteen", Check.loaded(times("object 1 5 0;", 16)).below(6), 65535);
    }

    static void promise57() {
        CountedStudio s = waiting();
        same("57: all", s.objectsIn(0), 3);
        s.tick(3);
        same("57: cures", s.objectsIn(3), 1);
        same("57: waits", s.objectsIn(2), 2);
        same("57: none", s.objectsIn(1), 0);
        s.tick(20);
        s.lend(1, 0, 0, 2);
        s.plan(0, 0);
        s.tick(1);
        same("57: lent", s.objectsIn(4), 2);
        same("57: at a bench", s.objectsIn(1), 1);
        Check.badValue("57: below", () -> s.objectsIn(-1));
        Check.badValue("57: above", () -> s.objectsIn(5));
    }

    static void promise58() {
        same("58: mean", shop().meanScore(), 425.0);
        same("58: not whole", Check.loaded("object 1 1 1;object 1 2 1;object 1 2 1;").meanScore(), 5.0 / 3.0);
        Check.throwsExactly("58: none", ArithmeticException.class, () -> new CountedStudio().meanScore());
    }

    static void promise59() {
        CountedStudio s = shop();
        same("59: empty", s.write(2), 0);
        s.plan(2, 1);
        same("59: two bytes", s.write(2), 2);
        s.plan(2, 0);
        s.plan(2, 2);
        same("59: seven", s.write(2), 7);
        String due = "1!,0,2!";
        for (int at = 0; at < 7; at++) same("59: byte " + at, s.outputByte(at), (int) due.charAt(at));
        Check.noObject("59: object", () -> s.write(4));
        Check.noObject("59: object", () -> s.write(-1));
        same("59: a throw leaves it", s.outputByte(6), 33);
        for (int n = 0; n < 5; n++) s.plan(2, 3);
        same("59: eight of them", s.write(2), 22);
        same("59: another", s.write(0), 0);
        same("59: in place of it", s.outputByte(0), -1);
    }

    static void promise60() {
        CountedStudio s = shop();
        same("60: none yet", s.outputByte(0), -1);
        s.plan(2, 1);
        s.write(2);
        same("60: digit", s.outputByte(0), 49);
        same("60: mark", s.outputByte(1), 33);
        same("60: none", s.outputByte(2), -1);
        same("60: below", s.outputByte(-1), -1);
        same("60: far", s.outputByte(MAX), -1);
        s.undo();
        same("60: undo leaves it", s.outputByte(0), 49);
        Check.input(s, "object 1 1 1;");
        s.load();
        same("60: load leaves it", s.outputByte(1), 33);
        s.saveSnapshot(0);
        s.write(0);
        s.restoreSnapshot(0);
        same("60: not in snapshots", s.outputByte(0), -1);
    }

    static void promise61() {
        CountedStudio s = shop();
        Check.input(s, "plan 3 2;approve 3;plan 3 0;cancel 3;lend 3 5 0 9;recall 3;lend 3 6 1 2;tick 2;");
        same("61: all", s.play(), 8);
        same("61: at a bench", s.object(3, 3), 1);
        same("61: loan", s.loan(3, 0), 6);
        same("61: time", s.count(4), 2);
        same("61: each can be undone", s.count(12), 8);
        Check.input(s, "");
        same("61: none", s.play(), 0);
        same("61: nothing to undo by it", s.count(12), 8);
        Check.input(s, "tick 1;cancel 0;tick 1;");
        same("61: ends at a refusal", s.play(), 1);
        same("61: what was done stays", s.count(4), 3);
        Check.input(s, "plan 0 0;plan 4 0;plan 0 0;");
        same("61: no such object", s.play(), 1);
        Check.input(s, "plan 0 0;plan 0 4;plan 0 0;");
        same("61: no such recipe", s.play(), 1);
        for (String word : new String[] {"cancel 15", "approve 15", "lend 15 0 0 1", "recall 15"}) {
            Check.input(s, "tick 1;" + word + ";");
            same("61: " + word, s.play(), 1);
        }
        Check.input(s, "lend 0 1 1 1;lend 0 1 1 1;");
        same("61: loan waits", s.play(), 1);
        Check.input(s, times("plan 1 0;", 10));
        same("61: full queue", s.play(), 8);
        Check.input(s, times("tick 1;", 40));
        same("61: forty", s.play(), 40);
        same("61: ten of them", s.count(12), 10);
        Check.input(s, times("tick 1000;", 21));
        same("61: to the end of time", s.play(), 19);
        same("61: no error", s.errorCode(), 0);
        same("61: the buffer is empty", s.truncateInput(1), -1);
        for (String word : new String[] {"plan 0 0", "cancel 0", "approve 0", "lend 0 0 0 1", "recall 0", "tick 1"}) {
            refused(true, "z" + word.substring(1) + ";", 1, 0);
            refused(true, word.replaceFirst(" ", "z ") + ";", 1, 0);
        }
        CountedStudio ends = Check.loaded(times("recipe 1 0 0 0 0 0 1;", 10) + times("object 1 0 0;", 16));
        Check.input(ends, "lend 15 20000 1000 500;plan 15 9;tick 1000;lend 0 0 0 1;plan 0 0;tick 1;");
        same("61: the ends of the ranges", ends.play(), 6);
        same("61: great", ends.loan(15, 2), 500);
        refused(true, times("tick 1;", 41), 4, 280);
        refused(true, times("tick 1;", 40) + "tack", 1, 280);
        refused(true, times("tick 1;", 39) + "tick 0;tick 1;", 2, 278);
        refused(true, "plan 16 0;", 2, 5);
        refused(true, "plan 0 10;", 2, 7);
        refused(true, "cancel 16;", 2, 7);
        refused(true, "approve 16;", 2, 8);
        refused(true, "recall 16;", 2, 7);
        refused(true, "tick 1001;", 2, 5);
        refused(true, "lend 16 0 0 1;", 2, 5);
        refused(true, "lend 0 20001 0 1;", 2, 7);
        refused(true, "lend 0 0 1001 1;", 2, 9);
        refused(true, "lend 0 0 0 0;", 2, 11);
        refused(true, "lend 0 0 0 501;", 2, 11);
        refused(true, "lend 0 0 0;", 1, 10);
        refused(true, "tick 1;object 1 1 1;", 1, 7);
        refused(true, "exchange 0 0 1;", 1, 0);
        CountedStudio t = shop();
        Check.input(t, "tick 1;plan 0 0;tick");
        same("61: refused whole", t.play(), -3);
        same("61: nothing was done", t.count(4), 0);
        same("61: nothing to undo", t.count(12), 0);
    }

    static void promise62() {
        CountedStudio s = shop();
        same("62: none", s.undo(), -1);
        s.plan(3, 2);
        s.approve(3);
        s.lend(3, 50, 0, 9);
        int digest = s.digest();
        s.tick(6);
        s.plan(3, 0);
        s.plan(3, 1);
        s.exchange(3, 0, 1);
        s.clearQueue(3);
        s.recall(3);
        same("62: nine", s.count(12), 9);
        same("62: recall", s.undo(), 8);
        same("62: loan is back", s.loan(3, 2), 9);
        s.undo();
        same("62: queue is back", s.queued(3, 1), 0);
        s.undo();
        same("62: order is back", s.queued(3, 0), 0);
        s.undo();
        s.undo();
        same("62: four", s.undo(), 3);
        same("62: hours are back", s.digest(), digest);
        same("62: records are gone", s.count(8), 0);
        same("62: owes nothing", s.bill(3), 0);
        same("62: approval is back", s.object(3, 6), 72);
        s.undo();
        same("62: no loan", s.loan(3, 0), -1);
        s.undo();
        same("62: no approval", s.object(3, 6), -1);
        same("62: the last", s.undo(), 0);
        same("62: empty", s.object(3, 5), 0);
        same("62: no more", s.undo(), -1);
        for (int n = 1; n <= 13; n++) s.tick(1);
        same("62: ten", s.count(12), 10);
        for (int n = 9; n >= 0; n--) same("62: back", s.undo(), n);
        same("62: three stay", s.count(4), 3);
        same("62: no more than ten", s.undo(), -1);
        s.saveSnapshot(0);
        s.tick(5);
        s.saveSnapshot(0);
        s.undo();
        same("62: snapshots are not undone", s.restoreSnapshot(0), true);
        same("62: the later one", s.count(4), 8);
    }

    static void promise63() {
        same("63: empty", new CountedStudio().digest(), 31);
        CountedStudio s = Check.loaded("recipe 5 0 0 0 0 0 1;object 1 7 0;");
        same("63: one", s.digest(), ((31 * 31 + 7) * 31 + 0) * 31 + 0);
        s.plan(0, 0);
        s.tick(2);
        same("63: at a bench", s.digest(), (((31 + 2) * 31 + 7) * 31 + 1) * 31 + 4);
        CountedStudio t = shop();
        int due = 31;
        for (int score : new int[] {400, 900, 0, 400}) due = ((due * 31 + score) * 31) * 31;
        same("63: four", t.digest(), due);
    }

    static void promise64() {
        CountedStudio s = shop();
        same("64: below", s.saveSnapshot(-1), false);
        same("64: above", s.saveSnapshot(2), false);
        same("64: far", s.saveSnapshot(MAX), false);
        same("64: 0", s.saveSnapshot(0), true);
        s.plan(0, 0);
        same("64: 1", s.saveSnapshot(1), true);
        same("64: undo counts stay", s.count(12), 1);
        s.tick(5);
        s.restoreSnapshot(0);
        same("64: 0 is the first", s.object(0, 5), 0);
        s.restoreSnapshot(1);
        same("64: 1 is the second", s.object(0, 5), 1);
        same("64: replaced", s.saveSnapshot(0), true);
        s.clearQueue(0);
        s.restoreSnapshot(0);
        same("64: the later one", s.object(0, 5), 1);
    }

    static void promise65() {
        CountedStudio s = waiting();
        same("65: none", s.restoreSnapshot(0), false);
        same("65: below", s.restoreSnapshot(-1), false);
        same("65: above", s.restoreSnapshot(2), false);
        s.tick(3);
        s.saveSnapshot(1);
        int digest = s.digest();
        same("65: none in the other", s.restoreSnapshot(0), false);
        same("65: a false changes nothing", s.count(12), 3);
        s.tick(4);
        s.write(0);
        Check.input(s, "x");
        s.load();
        same("65: restored", s.restoreSnapshot(1), true);
        same("65: digest", s.digest(), digest);
        same("65: records", s.count(8), 3);
        same("65: press", s.press(0, 1), 0);
        same("65: error stays", s.errorCode(), 1);
        same("65: nothing to undo", s.undo(), -1);
        s.tick(2);
        same("65: goes on as before", s.lost(1), 2);
        same("65: it stays", s.restoreSnapshot(1), true);
        same("65: digest again", s.digest(), digest);
        // 1 comes into the press, then waits once more from another score: the first wait is back with its own
        s.tick(9);
        for (int k = 0; k < 2; k++) s.plan(k, 0);
        s.tick(3);
        same("65: waits again", s.object(1, 3), 2);
        same("65: the first wait is back", s.restoreSnapshot(1), true);
        s.tick(2);
        row("65: from its own score", s, 3, 1, 1, 0, 4, 205, 203);
        Check.input(s, "object 1 1 1;");
        s.load();
        same("65: gone by load()", s.restoreSnapshot(1), false);
    }

    /** What an hour does, in its order. */
    private static void hours() {
        // those that began to wait earlier come first, whatever their numbers
        CountedStudio s = Check.loaded("benches 3;press 9;recipe 3 9 1 0 0 0 1;recipe 2 9 1 0 0 0 1;recipe 1 5 1 0 0 0 1;object 9 500 0;object 9 500 0;object 9 500 0;");
        s.plan(2, 2);
        s.plan(0, 0);
        s.plan(1, 1);
        s.tick(6);
        same("hours: two wait", s.objectsIn(2), 3);
        s.tick(1);
        same("hours: 1 waited longer", s.press(0, 1), 1);
        // the press with the least size, of those that are free
        CountedStudio t = Check.loaded("benches 4;press 30;press 10;press 20;recipe 1 9 1 0 0 0 1;object 10 1 0;object 5 1 0;object 1 1 0;object 11 1 0;");
        for (int k = 0; k < 4; k++) t.plan(k, 0);
        t.tick(2);
        same("hours: least", t.press(1, 1), 0);
        same("hours: next", t.press(2, 1), 1);
        same("hours: last", t.press(0, 1), 2);
        same("hours: the fourth waits", t.objectsIn(2), 8);
        t.tick(3);
        same("hours: not below 0", t.object(3, 1), 0);
        // one that fits comes ahead of one that waited longer and does not
        CountedStudio u = Check.loaded("benches 2;press 20;press 5;recipe 1 9 1 0 0 0 1;object 20 100 0;object 20 100 0;object 5 100 0;");
        for (int k = 0; k < 3; k++) u.plan(k, 0);
        u.tick(3);
        same("hours: 2 is in the little one", u.press(1, 1), 2);
        same("hours: 1 waits on", u.objectsIn(2), 2);
        // a loan waits for the score and for the queue, and a bench that comes free is taken in the same hour
        CountedStudio v = Check.loaded("recipe 1 0 0 0 60 0 1;object 1 400 0;object 1 400 0;");
        v.lend(0, 0, 500, 3);
        v.plan(0, 0);
        v.plan(0, 0);
        v.plan(1, 0);
        v.tick(2);
        same("hours: 460, at a bench again", v.object(0, 3), 1);
        same("hours: 1 has to wait", v.object(1, 3), 0);
        v.tick(1);
        same("hours: 520, lent", v.object(0, 3), 4);
        same("hours: late by 2", v.count(11), 2);
        same("hours: 1 began in the same hour", v.object(1, 3), 1);
        v.lend(0, 0, 500, 1);
        v.tick(3);
        same("hours: 500 is enough, lent again in the hour it came back", v.object(0, 3), 4);
        same("hours: late by 5 more", v.count(11), 7);
        v.tick(1);
        same("hours: back", v.object(0, 1), 480);
        v.lend(0, 0, 481, 1);
        v.tick(9);
        same("hours: not good enough", v.object(0, 3), 0);
        // an approval is gone with the step that it was for
        CountedStudio w = Check.loaded("life 5;benches 2;recipe 1 0 0 3 0 0 1;object 1 1 1;");
        w.plan(0, 0);
        w.plan(0, 0);
        w.approve(0);
        w.tick(5);
        same("hours: the second has none", w.reason(0), 4);
        same("hours: one was done", w.count(9), 1);
        // an approval that ends at 5 is good in the hour 4 and not in the hour 5
        for (int due = 4; due <= 5; due++) {
            CountedStudio x = Check.loaded("life 5;recipe " + due + " 0 0 0 0 0 1;recipe 1 0 0 3 0 0 1;object 1 1 0;object 1 1 1;");
            x.plan(0, 0);
            x.plan(1, 1);
            x.approve(1);
            x.tick(9);
            same("hours: approval at " + due, x.object(1, 9), due == 4 ? 1 : 0);
        }
    }
}
