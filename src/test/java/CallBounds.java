/** The bounds of the promises 1 to 20: making a studio, its input, its things, and the calls that can be undone. */
final class CallBounds {
    private static final int BLANKS = 0x20202020;

    private CallBounds() {
    }

    private static void says(String words) {
        Sentences.says(words);
    }

    private static void same(String what, Object got, Object due) {
        Bounds.same(what, got, due);
    }

    private static void promise(int number) {
        Sentences.open("Promise " + number);
    }

    /** What undo(), at once, makes of a call: nothing is left of it. */
    static void undoneWhole(Bounds.Maker maker, Bounds.Call call) {
        CountedStudio s = maker.make();
        call.of(s);
        s.undo();
        CountedStudio spared = maker.make();
        same("undone", Look.difference(Look.all(s), Look.all(spared)), "the same");
    }

    static void all() {
        newObject();
        append();
        truncate();
        load();
        errors();
        count();
        things();
        queued();
        loan();
        plan();
        cancel();
        clearQueue();
        exchange();
        approve();
        lend();
        recall();
        tick();
    }

    private static void newObject() {
        promise(1);
        says("Creates a studio with one bench, without presses, recipes and objects.");
        CountedStudio s = new CountedStudio();
        Bounds.properties(s, (x, what) -> x.count(what), 1, 0, 0, 0, 0, 72, 1, 0, 0, 0, 0, 0, 0);
        same("buffer", Look.bufferLength(s), 0);
        same("error", s.errorCode(), 0);
        same("position", s.errorPosition(), -1);
        same("output", s.outputByte(0), -1);
        same("nothing to undo", s.undo(), -1);
        for (int place = 0; place <= 1; place++) same("no snapshot", s.restoreSnapshot(place), false);
        same("each has its own things", Bounds.busy().count(3) + new CountedStudio().count(3), 5);
        same("no one is next", s.next(), -1);
        for (int reason = 0; reason <= 6; reason++) same("none with " + reason, s.objectsWith(reason), 0);
        for (int state = 0; state <= 4; state++) same("none in " + state, s.objectsIn(state), 0);
        same("no script is one", s.play(), 0);
        same("hours go by", s.tick(1), 1);
    }

    private static void append() {
        promise(2);
        says("Appends 20 bytes to the input buffer: the four bytes of each argument, most significant byte first."
                + " - w0: first four bytes - w1: next four bytes - w2: next four bytes - w3: next four bytes - w4: last four bytes");
        // "object 5 6 0;" and seven blanks, then "life 003", "; press ", "0099;   "
        CountedStudio s = new CountedStudio();
        same("empty", s.appendInput(0x6f626a65, 0x63742035, 0x20362030, 0x3b202020, BLANKS), 20);
        same("not empty", s.appendInput(0x6c696665, 0x20303033, 0x3b207072, 0x65737320, 0x3030393b), 40);
        same("read", s.load(), 1);
        same("size", s.object(0, 0), 5);
        same("score", s.object(0, 1), 6);
        same("life", s.count(5), 3);
        same("press", s.press(0, 0), 9);
        // the sign of an argument is the first bit of its first byte
        s.appendInput(BLANKS, 0x20202020, 0x202020ff, 0xff202020, BLANKS);
        same("bytes of 255", s.load(), -3);
        same("at the last of w2", s.errorPosition(), 11);
        s.appendInput(BLANKS, BLANKS, BLANKS, 0x80000000, BLANKS);
        same("a byte of 128", s.load(), -3);
        same("at the first of w3", s.errorPosition(), 12);
        s.appendInput(Bounds.MIN, Bounds.MAX, 0, -1, 1);
        same("any bytes", s.load(), -3);
        same("at 0", s.errorPosition(), 0);

        says("Returns the new length of the buffer; NONE if it would exceed 1000 bytes (then nothing is appended).");
        CountedStudio t = new CountedStudio();
        for (int n = 1; n <= 50; n++) same("length", t.appendInput(BLANKS, BLANKS, BLANKS, BLANKS, BLANKS), 20 * n);
        same("no more", t.appendInput(0, 0, 0, 0, 0), -1);
        same("as long", Look.bufferLength(t), 1000);
        same("nothing of it", t.load(), 0);
        for (int length : new int[] {981, 990, 999, 1000}) {
            Bounds.refused("behind " + length, () -> TextBounds.blanks(length), -1, x -> x.appendInput(0, 0, 0, 0, 0));
        }
        same("behind 980", TextBounds.blanks(980).appendInput(0, 0, 0, 0, 0), 1000);
        CountedStudio again = TextBounds.blanks(1000);
        again.play();
        same("a buffer that is read has room", again.appendInput(0, 0, 0, 0, 0), 20);
    }

    private static void truncate() {
        promise(3);
        says("Shortens the input buffer to its first bytes. - length: 0 to the current length");
        CountedStudio s = new CountedStudio();
        Check.input(s, "press 98;press x");
        same("cut", s.truncateInput(9), 9);
        same("its first bytes", s.load(), 0);
        same("are read", s.press(0, 0), 98);
        Check.input(s, "press 98;");
        same("cut in a number", s.truncateInput(7), 7);
        s.appendInput(0x3b202020, BLANKS, BLANKS, BLANKS, BLANKS);
        same("and gone on", s.load(), 0);
        same("with another", s.press(0, 0), 9);

        says("Returns the new length; NONE if length is out of range.");
        for (int length : new int[] {0, 1, 20, 999, 1000}) {
            same("whole " + length, TextBounds.blanks(length).truncateInput(length), length);
            same("empty " + length, TextBounds.blanks(length).truncateInput(0), 0);
            if (length > 0) same("by one " + length, TextBounds.blanks(length).truncateInput(length - 1), length - 1);
            for (int bad : new int[] {-1, length + 1, Bounds.MIN, Bounds.MAX}) {
                Bounds.refused(bad + " of " + length, () -> TextBounds.blanks(length), -1, x -> x.truncateInput(bad));
            }
        }
    }

    private static void load() {
        promise(4);
        says("Reads the input buffer.");
        same("what is in it", Bounds.textTaken("life 17;", 0).count(5), 17);

        says("Returns the number of objects;");
        Bounds.textTaken("", 0);
        Bounds.textTaken("object 1 0 0;", 1);
        Bounds.textTaken("object 1 0 0;".repeat(15), 15);
        Bounds.textTaken("object 1 0 0;".repeat(16), 16);

        says("TEXT_ERROR if the text has an error (then only the buffer and the error change).");
        for (String text : new String[] {"?", "life 5;benches 3;object 1 1 1;press 1;x", "object 1 0 0;".repeat(17), "life 5;life 6;", "press 0;", "press"}) {
            CountedStudio s = Bounds.busy();
            CountedStudio spared = Bounds.busy();
            Check.input(s, text);
            same(text, s.load(), -3);
            same("buffer", Look.bufferLength(s), 0);
            // with the same buffer and error in the other, nothing else may be different, now and later
            Check.input(spared, text);
            spared.play();
            same("error", s.errorCode() > 0, true);
            same("all else", Look.difference(Look.state(s), Look.state(spared)), "the same");
            same("output", s.outputByte(0), (int) '2');
            for (int n = 0; n < 11; n++) same("undo", s.undo(), spared.undo());
            same("undone", Look.difference(Look.state(s), Look.state(spared)), "the same");
            for (int place = 0; place <= 1; place++) same("snapshots are there", s.restoreSnapshot(place) && spared.restoreSnapshot(place), true);
            same("restored", Look.difference(Look.state(s), Look.state(spared)), "the same");
        }
    }

    private static void errors() {
        promise(5);
        says("Returns the error code of the latest load() or play(). Returns 1 to 4; 0 if the text had no error, or if there was none.");
        same("there was none", new CountedStudio().errorCode(), 0);
        String[] texts = {"x", "press 0;", "life 1;life", "press 1;".repeat(7)};
        for (int code = 1; code <= 4; code++) {
            CountedStudio s = Bounds.busy();
            Check.input(s, texts[code - 1]);
            s.load();
            same("code", s.errorCode(), code);
            Check.input(s, "tick 1;");
            same("stays until the next text", s.errorCode(), code);
            s.play();
            same("0 behind a good script", s.errorCode(), 0);
        }
        String[] scripts = {"x", "tick 0;", "", "tick 1;".repeat(41)};
        for (int code = 1; code <= 4; code++) {
            if (code == 3) continue;
            CountedStudio s = Bounds.busy();
            Check.input(s, scripts[code - 1]);
            s.play();
            same("code of a script", s.errorCode(), code);
            s.undo();
            s.restoreSnapshot(0);
            same("stays", s.errorCode(), code);
            s.load();
            same("0 behind a good text", s.errorCode(), 0);
        }
        CountedStudio s = Bounds.busy();
        Check.input(s, "cancel 0;");
        same("a command that fails", s.play(), 0);
        same("is no error of the text", s.errorCode(), 0);

        promise(6);
        says("Returns the error position of the latest load() or play(). Returns the position; NONE if the text had no error, or if there was none.");
        same("there was none", new CountedStudio().errorPosition(), -1);
        for (int position : new int[] {0, 1, 500, 999}) {
            CountedStudio t = Bounds.busy();
            Check.input(t, " ".repeat(position) + "?");
            t.load();
            same("of load()", t.errorPosition(), position);
            Check.input(t, " ".repeat(position) + "!");
            t.play();
            same("of play()", t.errorPosition(), position);
            Check.input(t, "tick 1;");
            same("stays until the next text", t.errorPosition(), position);
            t.play();
            same("none behind a good script", t.errorPosition(), -1);
        }
        CountedStudio t = Bounds.busy();
        Check.input(t, " ".repeat(996) + "life");
        t.load();
        same("the length of the text", t.errorPosition(), 1000);
        t.load();
        same("none behind a good text", t.errorPosition(), -1);
    }

    private static void count() {
        promise(7);
        says("Returns a number. - what: 0 benches, 1 presses, 2 recipes, 3 objects, 4 the time, 5 LIFE, 6 benches that are free, 7 presses that are free,"
                + " 8 records that are kept, 9 steps done since load(), 10 loans that began since load(), 11 hours by which they were late, together,"
                + " 12 calls that can be undone Returns the number; NONE for any other what.");
        Bounds.properties(new CountedStudio(), (s, what) -> s.count(what), 1, 0, 0, 0, 0, 72, 1, 0, 0, 0, 0, 0, 0);
        Bounds.properties(Bounds.full(), (s, what) -> s.count(what), 1, 6, 10, 16, 0, 72, 1, 6, 0, 0, 0, 0, 0);
        // of busy(): steps done in the hours 1, 3 and 11, a loan that began at its DUE and one 9 hours late, one wait that ended with 7 lost, one with 0
        Bounds.properties(Bounds.busy(), (s, what) -> s.count(what), 2, 1, 3, 5, 13, 30, 1, 0, 6, 3, 2, 9, 10);
        CountedStudio s = Bounds.loaded("benches 4;press 9;recipe 1 9 1 0 0 0 1;" + "object 9 1 0;".repeat(4));
        for (int object = 0; object < 4; object++) s.plan(object, 0);
        same("all benches are free", s.count(6), 4);
        s.tick(1);
        same("no bench is free", s.count(6), 0);
        same("the press is free", s.count(7), 1);
        s.tick(1);
        same("it is not", s.count(7), 0);
        Check.input(s, "object 1 1 1;");
        s.load();
        same("since load()", s.count(9), 0);
    }

    private static void things() {
        promise(8);
        says("Returns a property of a press. - press: number of a press - what: 0 SIZE, 1 the object that is in it (NONE if it is free)"
                + " Returns the value; NONE for any other what.");
        Bounds.properties(Bounds.busy(), (s, what) -> s.press(0, what), 30, 1);
        Bounds.properties(Bounds.full(), (s, what) -> s.press(5, what), 100, -1);
        says("Throws IndexOutOfBoundsException if there is no such press");
        Bounds.pressNumbers((s, press) -> s.press(press, 0));
        Bounds.pressNumbers((s, press) -> s.press(press, 9));

        promise(9);
        says("Returns a property of a recipe. - recipe: number of a recipe - what: 0 WORK, 1 CURE, 2 PRESS, 3 LEVEL, 4 BASE, 5 RATE, 6 WAGE"
                + " Returns the value; NONE for any other what.");
        Bounds.properties(Bounds.busy(), (s, what) -> s.recipe(2, what), 1, 1, 0, 3, 5, 5, 100000000);
        Bounds.properties(Bounds.full(), (s, what) -> s.recipe(9, what), 1, 1, 0, 0, 1, 1, 1);
        says("Throws IndexOutOfBoundsException if there is no such recipe");
        Bounds.recipeNumbers((s, recipe) -> s.recipe(recipe, 0));
        Bounds.recipeNumbers((s, recipe) -> s.recipe(recipe, -1));

        promise(10);
        says("Returns a property of an object. - object: number of an object - what: 0 SIZE, 1 SCORE, 2 GUARD, 3 state, 4 REST, 5 recipes in its queue,"
                + " 6 the end of its approval (NONE without), 7 the recipe of its step that goes on in the states 1 to 3 (otherwise NONE),"
                + " 8 the press in which it is (NONE), 9 steps of it that are done since load(), 10 its URGENCY"
                + " Returns the value; NONE for any other what.");
        CountedStudio s = Bounds.busy();
        Bounds.properties(s, (x, what) -> x.object(0, what), 10, 519, 0, 2, 0, 0, -1, 0, -1, 2, 30000);
        Bounds.properties(s, (x, what) -> x.object(1, what), 10, 403, 0, 3, 7, 1, -1, 0, 0, 1, 290);
        Bounds.properties(s, (x, what) -> x.object(2, what), 10, 300, 0, 1, 19, 0, -1, 1, -1, 0, 30000);
        Bounds.properties(s, (x, what) -> x.object(3, what), 10, 180, 1, 4, 49, 0, -1, -1, -1, 0, 30000);
        Bounds.properties(s, (x, what) -> x.object(4, what), 10, 100, 1, 0, 0, 2, 43, -1, -1, 0, 300);
        Bounds.properties(Bounds.full(), (x, what) -> x.object(15, what), 1, 500, 0, 0, 0, 0, -1, -1, -1, 0, 30000);
        says("Throws IndexOutOfBoundsException if there is no such object");
        Bounds.objectNumbers((x, object) -> x.object(object, 0));
        Bounds.objectNumbers((x, object) -> x.object(object, 11));
    }

    private static void queued() {
        promise(11);
        says("Returns a recipe of a queue. - object: number of an object - place: from 0 Returns the recipe; NONE if there is none at this place.");
        CountedStudio s = Bounds.full();
        Bounds.properties(s, (x, place) -> x.queued(3, place));
        s.plan(3, 9);
        Bounds.properties(s, (x, place) -> x.queued(3, place), 9);
        for (int n = 8; n > 1; n--) s.plan(3, n);
        Bounds.properties(s, (x, place) -> x.queued(3, place), 9, 8, 7, 6, 5, 4, 3, 2);
        s.cancel(3);
        Bounds.properties(s, (x, place) -> x.queued(3, place), 9, 8, 7, 6, 5, 4, 3);
        s.tick(1);
        Bounds.properties(s, (x, place) -> x.queued(3, place), 8, 7, 6, 5, 4, 3);
        s.clearQueue(3);
        Bounds.properties(s, (x, place) -> x.queued(3, place));
        says("Throws IndexOutOfBoundsException if there is no such object");
        Bounds.objectNumbers((x, object) -> x.queued(object, 0));
        Bounds.objectNumbers((x, object) -> x.queued(object, -1));
    }

    private static void loan() {
        promise(12);
        says("Returns a number of the loan of an object that waits. - object: number of an object - what: 0 DUE, 1 MINIMUM, 2 LENGTH"
                + " Returns the number; NONE for any other what, or if no loan waits.");
        CountedStudio s = Bounds.full();
        Bounds.properties(s, (x, what) -> x.loan(15, what));
        s.lend(15, 20000, 1000, 500);
        Bounds.properties(s, (x, what) -> x.loan(15, what), 20000, 1000, 500);
        Bounds.properties(s, (x, what) -> x.loan(14, what));
        s.recall(15);
        Bounds.properties(s, (x, what) -> x.loan(15, what));
        s.lend(15, 0, 0, 1);
        Bounds.properties(s, (x, what) -> x.loan(15, what), 0, 0, 1);
        s.tick(1);
        Bounds.properties(s, (x, what) -> x.loan(15, what));
        says("Throws IndexOutOfBoundsException if there is no such object");
        Bounds.objectNumbers((x, object) -> x.loan(object, 0));
        Bounds.objectNumbers((x, object) -> x.loan(object, 3));
    }

    private static void plan() {
        promise(13);
        says("Puts a recipe at the end of the queue of an object. - object: number of an object - recipe: number of a recipe"
                + " Returns how many are in the queue then;");
        CountedStudio s = Bounds.full();
        for (int n = 1; n <= 8; n++) {
            same("plan", s.plan(15, n), n);
            same("at the end", s.queued(15, n - 1), n);
            same("the first stays", s.queued(15, 0), 1);
        }
        same("other queues are empty", s.object(14, 5), 0);
        CountedStudio approved = Bounds.busy();
        same("behind two", approved.plan(4, 0), 3);
        same("an approval stays", approved.object(4, 6), 43);
        undoneWhole(Bounds::full, x -> x.plan(3, 0));

        says("FULL if there are 8.");
        Bounds.refused("a ninth", TextBounds::fullQueue, -2, x -> x.plan(0, 9));
        CountedStudio full = TextBounds.fullQueue();
        full.tick(1);
        same("one began: there is room", full.plan(0, 9), 8);
        same("and no more", full.plan(0, 9), -2);
        full.cancel(0);
        same("there is room again", full.plan(0, 8), 8);
        says("Throws IndexOutOfBoundsException if there is no such object or recipe");
        Bounds.objectNumbers((x, object) -> x.plan(object, 0));
        Bounds.recipeNumbers((x, recipe) -> x.plan(0, recipe));
        Bounds.refused("a full queue and no such recipe", TextBounds::fullQueue, Bounds.NO_SUCH, x -> x.plan(0, 10));
    }

    private static void cancel() {
        promise(14);
        says("Takes the last recipe from the queue of an object; if it was the first one, the approval is gone, too.");
        CountedStudio s = Bounds.busy();
        same("the last", s.cancel(4), 1);
        same("one is left", s.object(4, 5), 1);
        same("the approval stays", s.object(4, 6), 43);
        same("the first", s.cancel(4), 2);
        same("none is left", s.object(4, 5), 0);
        same("the approval is gone", s.object(4, 6), -1);
        undoneWhole(Bounds::rested, x -> x.cancel(4));
        says("- object: number of an object Returns the recipe;");
        CountedStudio full = TextBounds.fullQueue();
        for (int n = 7; n >= 0; n--) same("of eight", full.cancel(0), n);
        says("REFUSED if the queue is empty.");
        same("no more", full.cancel(0), -4);
        Bounds.refused("empty", Bounds::busy, -4, x -> x.cancel(2));
        Bounds.refused("a fresh one", Bounds::full, -4, x -> x.cancel(15));
        says("Throws IndexOutOfBoundsException if there is no such object");
        Bounds.objectNumbers((x, object) -> x.cancel(object));
    }

    private static void clearQueue() {
        promise(15);
        says("Empties the queue of an object; its approval is gone, too.");
        CountedStudio s = Bounds.busy();
        same("two", s.clearQueue(4), 2);
        same("none is left", s.object(4, 5), 0);
        same("none at its place", s.queued(4, 0), -1);
        same("the approval is gone", s.object(4, 6), -1);
        same("a loan stays", s.loan(4, 0), 300);
        same("other queues stay", s.object(1, 5), 1);
        undoneWhole(Bounds::rested, x -> x.clearQueue(4));
        says("- object: number of an object Returns how many recipes were in it;");
        for (int length = 1; length <= 8; length++) {
            CountedStudio t = Bounds.full();
            for (int n = 0; n < length; n++) t.plan(15, 9);
            same("so many", t.clearQueue(15), length);
            same("none then", t.inQueues(9), 0);
        }
        says("REFUSED if it is empty.");
        Bounds.refused("empty", Bounds::busy, -4, x -> x.clearQueue(2));
        Bounds.refused("a fresh one", Bounds::full, -4, x -> x.clearQueue(0));
        same("empty now", s.clearQueue(4), -4);
        says("Throws IndexOutOfBoundsException if there is no such object");
        Bounds.objectNumbers((x, object) -> x.clearQueue(object));
    }

    /** Eight recipes, 0 to 7, in the queue of object 3, whose first step is approved. */
    private static CountedStudio row(int first) {
        CountedStudio s = Bounds.loaded("recipe 1 0 0 3 0 0 1;".repeat(10) + "object 1 1 1;".repeat(4));
        for (int n = 0; n < 8; n++) s.plan(3, n == 0 ? first : n);
        s.approve(3);
        return s;
    }

    private static void exchange() {
        promise(16);
        says("Exchanges two recipes in the queue of an object; if one of both places is 0, the approval is gone (also if both recipes are the same).");
        for (int place = 0; place < 8; place++) {
            for (int other = 0; other < 8; other++) {
                if (place == other) continue;
                CountedStudio s = row(0);
                same(place + " and " + other, s.exchange(3, place, other), other);
                for (int at = 0; at < 8; at++) {
                    same("place " + at + " behind " + place + " and " + other, s.queued(3, at), at == place ? other : at == other ? place : at);
                }
                same("approval behind " + place + " and " + other, s.object(3, 6), place == 0 || other == 0 ? -1 : 72);
            }
        }
        for (int k = 0; k <= 1; k++) {
            CountedStudio s = row(7);
            same("the same recipes", s.exchange(3, 7 * k, 7 - 7 * k), 7);
            same("approval", s.object(3, 6), -1);
        }
        undoneWhole(() -> row(0), x -> x.exchange(3, 0, 7));

        says("- object: number of an object - place: from 0 - other: from 0 Returns the recipe at the first place then;");
        CountedStudio two = Bounds.busy();
        same("of two", two.exchange(4, 1, 0), 2);
        same("back", two.exchange(4, 0, 1), 2);
        says("REFUSED if there is no such place, or both are the same place.");
        for (int bad : new int[] {-1, 2, 8, Bounds.MIN, Bounds.MAX}) {
            for (int good = 0; good <= 1; good++) {
                int place = good;
                Bounds.refused(place + " and " + bad, Bounds::busy, -4, x -> x.exchange(4, place, bad));
                Bounds.refused(bad + " and " + place, Bounds::busy, -4, x -> x.exchange(4, bad, place));
            }
            Bounds.refused(bad + " twice", Bounds::busy, -4, x -> x.exchange(4, bad, bad));
        }
        for (int place = 0; place <= 1; place++) {
            int both = place;
            Bounds.refused(both + " twice", Bounds::busy, -4, x -> x.exchange(4, both, both));
        }
        Bounds.refused("8 of eight", () -> row(0), -4, x -> x.exchange(3, 0, 8));
        Bounds.refused("an empty queue", Bounds::busy, -4, x -> x.exchange(2, 0, 1));
        Bounds.refused("a queue of one", Bounds::busy, -4, x -> x.exchange(1, 0, 1));
        says("Throws IndexOutOfBoundsException if there is no such object");
        Bounds.objectNumbers((x, object) -> x.exchange(object, 0, 1));
        Bounds.objectNumbers((x, object) -> x.exchange(object, 0, 0));
    }

    private static void approve() {
        promise(17);
        says("Approves the next step of an object, in place of an earlier approval: it ends at the time plus LIFE. - object: number of an object Returns the end;");
        CountedStudio s = row(0);
        same("again", s.approve(3), 72);
        s.tick(1);
        same("it was used", s.object(3, 6), -1);
        same("not on the shelf", s.approve(3), 73);
        same("is kept", s.object(3, 6), 73);
        s.plan(0, 0);
        same("another object", s.approve(0), 73);
        CountedStudio kept = Bounds.loaded("recipe 1 0 1 3 0 0 1;object 1 1 1;");
        kept.plan(0, 0);
        for (int time : new int[] {0, 5, 1000}) {
            Bounds.at(time, kept);
            same("at " + time, kept.approve(0), time + 72);
            same("in place of the earlier one at " + time, kept.object(0, 6), time + 72);
        }
        CountedStudio late = Bounds.at(20000, "life 500;recipe 1 0 0 3 0 0 1;object 1 1 1;");
        late.plan(0, 0);
        same("at the end of time", late.approve(0), 20500);
        same("it has not ended", late.reason(0), 0);
        CountedStudio life = Bounds.loaded("life 1;recipe 1 0 0 3 0 0 1;object 1 1 1;");
        life.plan(0, 0);
        same("the shortest LIFE", life.approve(0), 1);
        undoneWhole(Bounds::rested, x -> x.approve(4));

        says("REFUSED if the queue is empty, or the step needs no approval.");
        Bounds.refused("an empty queue", Bounds::busy, -4, x -> x.approve(3));
        Bounds.refused("0 and 0", TextBounds::fullQueue, -4, x -> x.approve(0));
        Bounds.refused("0 and 0 at work", Bounds::busy, -4, x -> x.approve(1));
        CountedStudio t = Bounds.loaded("recipe 1 0 0 3 0 0 1;recipe 1 0 0 2 0 0 1;object 1 1 0;object 1 1 1;object 1 1 2;");
        int[][] due = {{-4, -4}, {72, -4}, {72, 72}};
        for (int object = 0; object < 3; object++) {
            for (int recipe = 0; recipe < 2; recipe++) {
                t.plan(object, recipe);
                same("GUARD " + object + ", recipe " + recipe, t.approve(object), due[object][recipe]);
                t.clearQueue(object);
            }
        }
        t.plan(1, 1);
        t.plan(1, 0);
        same("the first step counts", t.approve(1), -4);
        says("Throws IndexOutOfBoundsException if there is no such object");
        Bounds.objectNumbers((x, object) -> x.approve(object));
    }

    private static void lend() {
        promise(18);
        says("Lets a loan wait for an object. - object: number of an object - due: 0 to 20000 - minimum: 0 to 1000 - length: 1 to 500 Returns its URGENCY then;");
        for (int object : new int[] {0, 15}) {
            CountedStudio s = Bounds.full();
            same("least", s.lend(object, 0, 0, 1), 0);
            Bounds.properties(s, (x, what) -> x.loan(object, what), 0, 0, 1);
            same("URGENCY", s.object(object, 10), 0);
            s.recall(object);
            same("greatest", s.lend(object, 20000, 1000, 500), 20000);
            Bounds.properties(s, (x, what) -> x.loan(object, what), 20000, 1000, 500);
            same("URGENCY", s.object(object, 10), 20000);
        }
        CountedStudio s = Bounds.busy();
        same("while it is lent", s.lend(3, 9, 0, 1), 9);
        same("it is lent on", s.object(3, 4), 49);
        same("while it waits for a press", s.lend(0, 9, 0, 1), 9);
        undoneWhole(Bounds::full, x -> x.lend(3, 5, 5, 5));

        says("REFUSED if a loan waits for it already.");
        Bounds.refused("another one", Bounds::busy, -4, x -> x.lend(4, 1, 1, 1));
        Bounds.refused("the same one", Bounds::busy, -4, x -> x.lend(4, 300, 0, 5));
        says("Throws IndexOutOfBoundsException if there is no such object");
        Bounds.objectNumbers((x, object) -> x.lend(object, 0, 0, 1));
        says("Throws IllegalArgumentException if one of the others is out of range");
        Bounds.range(0, 20000, (x, due) -> x.lend(0, due, 0, 1));
        Bounds.range(0, 1000, (x, minimum) -> x.lend(0, 0, minimum, 1));
        Bounds.range(1, 500, (x, length) -> x.lend(0, 0, 0, length));
        Bounds.outside(0, 20000, Bounds.BAD, (x, due) -> x.lend(4, due, 0, 1));
        Bounds.outside(0, 1000, Bounds.BAD, (x, minimum) -> x.lend(4, 0, minimum, 1));
        Bounds.outside(1, 500, Bounds.BAD, (x, length) -> x.lend(4, 0, 0, length));
    }

    private static void recall() {
        promise(19);
        says("Takes the loan of an object back that waits. - object: number of an object Returns its DUE;");
        for (int due : new int[] {0, 1, 20000}) {
            CountedStudio s = Bounds.full();
            s.lend(15, due, 0, 1);
            same("DUE", s.recall(15), due);
            same("none waits", s.loan(15, 0), -1);
            same("URGENCY", s.object(15, 10), 30000);
            same("no other is more urgent", s.mostUrgent(), -1);
            s.tick(3);
            same("it is not lent", s.objectsIn(4), 0);
        }
        undoneWhole(Bounds::rested, x -> x.recall(4));
        says("REFUSED if none waits.");
        Bounds.refused("none", Bounds::busy, -4, x -> x.recall(0));
        Bounds.refused("lent already", Bounds::busy, -4, x -> x.recall(3));
        CountedStudio s = Bounds.busy();
        same("one", s.recall(1), 290);
        same("none then", s.recall(1), -4);
        says("Throws IndexOutOfBoundsException if there is no such object");
        Bounds.objectNumbers((x, object) -> x.recall(object));
    }

    private static void tick() {
        promise(20);
        says("Lets hours go by. - hours: 1 to 1000 Returns the time then;");
        CountedStudio once = Bounds.busy();
        CountedStudio oneByOne = Bounds.busy();
        same("forty", once.tick(40), 53);
        for (int n = 1; n <= 40; n++) same("one", oneByOne.tick(1), 13 + n);
        java.util.List<String> got = Look.state(oneByOne);
        same("is as one by one", Look.difference(got, Look.state(once)), "the same");
        same("least", new CountedStudio().tick(1), 1);
        same("greatest", new CountedStudio().tick(1000), 1000);
        undoneWhole(Bounds::full, x -> x.tick(1000));

        says("FULL if it would be greater than 20000.");
        for (int hours : new int[] {1, 2, 1000}) {
            same("up to 20000", Bounds.at(20000 - hours, Bounds.full()).tick(hours), 20000);
            Bounds.refused("to 20001", () -> Bounds.at(20001 - hours, Bounds.full()), -2, x -> x.tick(hours));
        }
        Bounds.refused("far", () -> Bounds.at(20000, Bounds.full()), -2, x -> x.tick(1000));
        says("Throws IllegalArgumentException if hours is out of range");
        Bounds.range(1, 1000, (x, hours) -> x.tick(hours));
        for (int bad : new int[] {0, -1, 1001, Bounds.MIN, Bounds.MAX}) {
            Bounds.refused(bad + " at the end of time", () -> Bounds.at(20000, Bounds.full()), Bounds.BAD, x -> x.tick(bad));
        }
    }
}
