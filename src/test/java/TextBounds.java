import java.util.ArrayList;
import java.util.List;

/** The bounds that 'Terms' names for the input, texts, scripts, errors, steps back, exceptions and constants. */
final class TextBounds {
    private static final int BLANKS = 0x20202020;
    private static final String[] STATEMENTS = {"benches 1 ;", "life 1 ;", "press 1 ;", "recipe 1 0 0 0 0 0 1 ;", "object 1 1 1 ;"};
    private static final String[] COMMANDS = {"plan 0 0 ;", "cancel 0 ;", "approve 0 ;", "lend 0 0 0 1 ;", "recall 0 ;", "tick 1 ;"};

    private TextBounds() {
    }

    private static void says(String words) {
        Sentences.says(words);
    }

    private static void same(String what, Object got, Object due) {
        Bounds.same(what, got, due);
    }

    static void all() {
        Sentences.open("Terms");
        buffer();
        words();
        numbers();
        blankBytes();
        statements();
        commands();
        firstError();
        codes();
        replacing();
        stepsBack();
        exceptions();
        constants();
    }

    /** A buffer with so many blanks in it. */
    static CountedStudio blanks(int length) {
        CountedStudio s = new CountedStudio();
        for (int n = 0; n < (length + 19) / 20; n++) s.appendInput(BLANKS, BLANKS, BLANKS, BLANKS, BLANKS);
        s.truncateInput(length);
        return s;
    }

    private static String offset(String text, int length) {
        return " ".repeat(length - text.length()) + text;
    }

    private static void buffer() {
        says("INPUT. Text is collected in an input buffer of at most 1000 bytes;");
        same("full", blanks(980).appendInput(1, 2, 3, 4, 5), 1000);
        Bounds.refused("a byte too much", () -> blanks(981), Bounds.NONE, s -> s.appendInput(1, 2, 3, 4, 5));
        Bounds.refused("full already", () -> blanks(1000), Bounds.NONE, s -> s.appendInput(1, 2, 3, 4, 5));
        same("a text of 1000 bytes", Bounds.textTaken(offset("object 7 1 1;", 1000), 1).object(0, 0), 7);
        Bounds.textRefused(offset("object 7 1 1", 1000), 1, 1000);
        Bounds.textRefused(offset("object 7 1 1;x", 1000), 1, 999);

        says("load() and play() read it and empty it, also on an error.");
        String[] texts = {"life 5;", "life;", "tick 1;", "tick;"};
        for (int k = 0; k < 4; k++) {
            CountedStudio s = new CountedStudio();
            Check.input(s, texts[k]);
            same(texts[k], k < 2 ? s.load() : s.play(), k % 2 == 0 ? k / 2 : -3);
            same("empty behind " + texts[k], Look.bufferLength(s), 0);
            same("appended at the beginning behind " + texts[k], s.appendInput(BLANKS, BLANKS, BLANKS, BLANKS, BLANKS), 20);
            same("and nothing else is read behind " + texts[k], s.play(), 0);
            same("without an error behind " + texts[k], s.errorCode(), 0);
        }
    }

    private static void words() {
        says("Tokens are words (longest runs of the letters a to z, at most 8 letters),");
        same("behind a number", Bounds.textTaken("press 5;life 9;press 7;", 0).press(1, 0), 7);
        same("a number behind it", Bounds.textTaken("press5;", 0).press(0, 0), 5);
        // the longest run: the error is at the beginning of the whole word
        Bounds.textRefused("pressa 1;", 1, 0);
        Bounds.textRefused("pressz 1;", 1, 0);
        Bounds.textRefused("apress 1;", 1, 0);
        Bounds.textRefused("benchesb 1;", 1, 0);
        Bounds.textRefused("benchesbb 1;", 1, 0);
        Bounds.textRefused("presspress 1;", 1, 0);
        Bounds.textRefused("life 1;" + "a".repeat(8) + " 1;", 1, 7);
        Bounds.textRefused("life 1;" + "a".repeat(9) + " 1;", 1, 7);
        Bounds.textRefused("life 1;" + "z".repeat(400), 1, 7);
        // what is no letter ends the word: the signs ahead of a and behind z, and the great letters
        for (char sign : new char[] {'`', '{', 'A', 'Z', '@', '[', '_'}) {
            Bounds.textRefused("press" + sign + "1;", 1, 5);
            Bounds.textRefused(sign + "press 1;", 1, 0);
        }
        for (char letter = 'a'; letter <= 'z'; letter++) Bounds.textRefused("press" + letter + "1;", 1, 0);
    }

    private static void numbers() {
        says("numbers (longest runs of digits, at most 9 digits)");
        same("nine digits", Bounds.textTaken("press 000000001;", 0).press(0, 0), 1);
        Bounds.textRefused("press 0000000001;", 1, 6);
        Bounds.textRefused("press 999999999;", 2, 6);
        Bounds.textRefused("press 100000000;", 2, 6);
        Bounds.textRefused("press 1000000000;", 1, 6);
        Bounds.textRefused("press 4294967297;", 1, 6);
        Bounds.textRefused("press 18446744073709551617;", 1, 6);
        Bounds.textRefused("press " + "0".repeat(400) + "1;", 1, 6);
        same("nine digits of a WAGE", Bounds.textTaken("recipe 1 0 0 0 0 0 100000000;", 0).recipe(0, 6), 100000000);
        for (char digit = '0'; digit <= '9'; digit++) {
            same("digit " + digit, Bounds.textTaken("press 1" + digit + ";", 0).press(0, 0), 10 + digit - '0');
        }
        for (char sign : new char[] {'/', ':', '-', '+', '.', ','}) Bounds.textRefused("press 1" + sign + ";", 1, 7);
        Bounds.textRefused("press 1a;", 1, 7);
        Bounds.textRefused("press -1;", 1, 6);

        says("and the symbol ; each.");
        same("touching", Bounds.textTaken("press 1;press 2;", 0).count(1), 2);
        Bounds.textRefused("press 1;;", 1, 8);
        Bounds.textRefused(";", 1, 0);
        Bounds.textRefused("press 1:", 1, 7);
        Bounds.textRefused("press 1<", 1, 7);
    }

    private static void blankBytes() {
        says("Spaces and line feeds (bytes 32 and 10) separate tokens and have no other meaning.");
        for (int sign = 0; sign < 256; sign++) {
            boolean blank = sign == 32 || sign == 10;
            boolean digit = sign >= '0' && sign <= '9';
            boolean letter = sign >= 'a' && sign <= 'z';
            String text = "press 1" + (char) sign + ";";
            if (blank || digit) {
                same("byte " + sign + " behind a number", Bounds.textTaken(text, 0).press(0, 0), blank ? 1 : 10 + sign - '0');
            } else {
                Bounds.textRefused(text, 1, sign == ';' ? 8 : 7);
            }
            text = "press" + (char) sign + "1;";
            if (blank || digit) {
                same("byte " + sign + " behind a word", Bounds.textTaken(text, 0).press(0, 0), blank ? 1 : 10 * (sign - '0') + 1);
            } else {
                Bounds.textRefused(text, 1, letter ? 0 : 5);
            }
            text = (char) sign + "press 1;";
            if (blank) {
                same("byte " + sign + " ahead", Bounds.textTaken(text, 0).press(0, 0), 1);
            } else {
                Bounds.textRefused(text, 1, 0);
            }
        }
        same("many of them", Bounds.textTaken("\n \n press \n\n 7 \n ; \n ", 0).press(0, 0), 7);
        Bounds.textRefused("pre ss 1;", 1, 0);
        Bounds.textRefused("press 1 0;", 1, 8);
        Bounds.textRefused("press 1\n0;", 1, 8);
    }

    private static void statements() {
        says("The text of load() is a sequence of statements, perhaps none, in any order:");
        for (String none : new String[] {"", " ", "\n", " \n ".repeat(300)}) {
            CountedStudio s = Bounds.textTaken(none, 0);
            same("as a new one", Look.difference(Look.all(s), Look.all(new CountedStudio())), "the same");
        }
        CountedStudio s = Bounds.textTaken("object 1 10 0;recipe 1 0 0 0 0 0 1;object 2 20 1;life 3;press 4;recipe 5 0 0 0 0 0 1;press 6;benches 2;object 3 30 2;", 3);
        for (int object = 0; object < 3; object++) same("object " + object, s.object(object, 1), 10 * object + 10);
        same("recipe 1", s.recipe(1, 0), 5);
        same("press 1", s.press(1, 0), 6);
        same("life", s.count(5), 3);
        same("benches", s.count(0), 2);

        says("benches N ; | life N ; (each at most once) | press SIZE ; | recipe WORK CURE PRESS LEVEL BASE RATE WAGE ; | object SIZE SCORE GUARD ;");
        for (String statement : STATEMENTS) {
            Bounds.textTaken(statement, statement.startsWith("object") ? 1 : 0);
            Bounds.textTaken(statement.replaceAll(" (?=;)", ""), statement.startsWith("object") ? 1 : 0);
            broken("press 5;\n", statement, false);
            otherWords(statement, false);
        }
        for (String command : COMMANDS) Bounds.textRefused(command, 1, 0);
        CountedStudio t = Bounds.textTaken("recipe 31 32 1 3 34 35 36;object 41 42 3;", 1);
        int[] recipe = {31, 32, 1, 3, 34, 35, 36};
        for (int what = 0; what < 7; what++) same("recipe " + what, t.recipe(0, what), recipe[what]);
        int[] object = {41, 42, 3};
        for (int what = 0; what < 3; what++) same("object " + what, t.object(0, what), object[what]);
    }

    /** A text that ends behind each token but the last, and one with each other kind of token in the place of each. */
    private static void broken(String ahead, String statement, boolean script) {
        String[] tokens = statement.split(" ");
        String start = ahead;
        for (int k = 0; k < tokens.length; k++) {
            if (k > 0) {
                wrong(start, 1, start.length(), script);
                wrong(start + " \n", 1, start.length() + 2, script);
                wrong(start.trim(), 1, start.trim().length(), script);
            }
            boolean word = k == 0;
            boolean end = k == tokens.length - 1;
            for (String other : new String[] {"x", tokens[0], "1", ";", "?"}) {
                boolean fits = word ? other.equals(tokens[0]) : end ? other.equals(";") : other.equals("1");
                if (!fits) wrong(start + other + " ;", 1, start.length(), script);
            }
            start += tokens[k] + " ";
        }
    }

    /** Words that differ in one letter, or have one less or one more. */
    private static void otherWords(String statement, boolean script) {
        int length = statement.indexOf(' ');
        String word = statement.substring(0, length);
        String rest = statement.substring(length);
        for (int at = 0; at < length; at++) {
            wrong(word.substring(0, at) + (word.charAt(at) == 'x' ? 'y' : 'x') + word.substring(at + 1) + rest, 1, 0, script);
            wrong(word.substring(0, at) + word.substring(at + 1) + rest, 1, 0, script);
        }
        wrong(word + "s" + rest, 1, 0, script);
        wrong("s" + word + rest, 1, 0, script);
        wrong(word.substring(0, 1).toUpperCase() + word.substring(1) + rest, 1, 0, script);
    }

    private static void wrong(String text, int code, int position, boolean script) {
        if (script) {
            Bounds.scriptRefused(text, code, position);
        } else {
            Bounds.textRefused(text, code, position);
        }
    }

    private static int played(CountedStudio s, String script) {
        Check.input(s, script);
        int answer = s.play();
        same("no error in " + script, s.errorCode(), 0);
        return answer;
    }

    private static void commands() {
        says("A script, the text of play(), is a sequence of at most 40 commands, perhaps none, which do what the methods of these names do:");
        for (String none : new String[] {"", " ", "\n", " \n ".repeat(300)}) {
            CountedStudio s = Bounds.busy();
            List<String> before = Look.state(s);
            same("none", played(s, none), 0);
            same("does nothing", Look.difference(Look.state(s), before), "the same");
        }
        same("one", played(Bounds.full(), "tick 1;"), 1);
        same("forty", played(Bounds.full(), "tick 1;".repeat(40)), 40);
        same("forty and blanks", played(Bounds.full(), "tick 1;".repeat(40) + " \n"), 40);
        Bounds.scriptRefused("tick 1;".repeat(41), 4, 280);
        CountedStudio played = Bounds.full();
        CountedStudio called = Bounds.full();
        same("all kinds", played(played, "plan 1 0;plan 1 2;cancel 1;lend 1 2 3 4;recall 1;lend 2 0 500 6;tick 3;lend 3 9 501 7;"), 8);
        called.plan(1, 0);
        called.plan(1, 2);
        called.cancel(1);
        called.lend(1, 2, 3, 4);
        called.recall(1);
        called.lend(2, 0, 500, 6);
        called.tick(3);
        called.lend(3, 9, 501, 7);
        int[] loan = {9, 501, 7};
        for (int what = 0; what < 3; what++) same("number " + what + " of a loan", played.loan(3, what), loan[what]);
        same("is as called", Look.difference(Look.all(played), Look.all(called)), "the same");
        CountedStudio approved = Bounds.loaded("recipe 1 0 0 3 0 0 1;object 1 1 1;");
        same("approve", played(approved, "plan 0 0;approve 0;"), 2);
        same("end", approved.object(0, 6), 72);

        says("plan OBJECT RECIPE ; | cancel OBJECT ; | approve OBJECT ; | lend OBJECT DUE MINIMUM LENGTH ; | recall OBJECT ; | tick HOURS ;"
                + " (OBJECT 0 to 15, RECIPE 0 to 9, HOURS 1 to 1000, all others as above)");
        String few = "recipe 1 0 0 3 0 0 1;".repeat(10) + "object 1 1 1;".repeat(16);
        String least = "plan 0 0;approve 0;cancel 0;lend 0 0 0 1;recall 0;tick 1;";
        String greatest = "plan 15 9;approve 15;cancel 15;lend 15 20000 1000 500;recall 15;tick 1000;";
        same("the least numbers", played(Bounds.loaded(few), least), 6);
        same("the greatest numbers", played(Bounds.loaded(few), greatest), 6);
        Bounds.scriptRefused("plan 16 0;", 2, 5);
        Bounds.scriptRefused("plan 0 10;", 2, 7);
        Bounds.scriptRefused("cancel 16;", 2, 7);
        Bounds.scriptRefused("approve 16;", 2, 8);
        Bounds.scriptRefused("lend 16 0 0 1;", 2, 5);
        Bounds.scriptRefused("lend 0 20001 0 1;", 2, 7);
        Bounds.scriptRefused("lend 0 0 1001 1;", 2, 9);
        Bounds.scriptRefused("lend 0 0 0 0;", 2, 11);
        Bounds.scriptRefused("lend 0 0 0 501;", 2, 11);
        Bounds.scriptRefused("recall 16;", 2, 7);
        Bounds.scriptRefused("tick 0;", 2, 5);
        Bounds.scriptRefused("tick 1001;", 2, 5);
        for (String command : COMMANDS) {
            broken("tick 1;\n", command, true);
            otherWords(command, true);
        }
        for (String statement : STATEMENTS) Bounds.scriptRefused(statement, 1, 0);
        for (String other : new String[] {"clear 0;", "exchange 0 0 1;", "undo;", "write 0;"}) Bounds.scriptRefused(other, 1, 0);
    }

    private static void firstError() {
        says("ERRORS. The first error is reported, from left to right, with a code and a position (the index of the first byte of the token"
                + " concerned, or the length of the text if it ends too early);");
        Bounds.textRefused("press 101 x", 2, 6);
        Bounds.textRefused("press 0;life 1;life 1;x", 2, 6);
        Bounds.textRefused("life 1;life 0;press 0;x", 3, 7);
        Bounds.textRefused("press 1;".repeat(6) + "life 2;\npress 0;life 3;", 4, 56);
        Bounds.textRefused("x press 0;", 1, 0);
        Bounds.textRefused("recipe 0 201 2 4 501 101 0;", 2, 7);
        Bounds.textRefused("recipe 40 200 1 3 501 101 0;", 2, 18);
        Bounds.textRefused(" \n press \n 0101 ;", 2, 11);
        Bounds.scriptRefused("tick 1001;".repeat(41), 2, 5);
        Bounds.scriptRefused("tick 1;".repeat(40) + "tick 0;x", 4, 280);
        Bounds.scriptRefused("tick 1;".repeat(39) + "tick 0;tick 1;", 2, 278);
        Bounds.scriptRefused("tick 1; tick", 1, 12);
        Bounds.scriptRefused("tick 1; tick \n", 1, 14);

        says("if several codes apply to a token, the lowest one is reported:");
        Bounds.textRefused("press 0000000101;", 1, 6);
        Bounds.textRefused("press 1 101;", 1, 8);
        Bounds.textRefused("press 1;".repeat(6) + "pres 1;", 1, 48);
        Bounds.textRefused("press 1;".repeat(6) + "pressesss 1;", 1, 48);
        Bounds.textRefused("life 1;life 2 life", 3, 7);
        Bounds.scriptRefused("tick 1;".repeat(40) + "tack", 1, 280);
        Bounds.scriptRefused("tick 1;".repeat(40) + ";", 1, 280);
        Bounds.scriptRefused("tick 1;".repeat(40) + "1", 1, 280);
        Bounds.scriptRefused("tick 1;".repeat(40) + "?", 1, 280);
        Bounds.scriptRefused("tick 1;".repeat(40) + "press 1;", 1, 280);
    }

    private static void codes() {
        says("1 syntax: something that is not a token (also a word or number that is too long), or a token that is not allowed at its place;");
        Bounds.textRefused("press 1?", 1, 7);
        Bounds.textRefused("abcdefghi 1;", 1, 0);
        Bounds.textRefused("press 1234567890;", 1, 6);
        Bounds.textRefused("press press;", 1, 6);
        Bounds.textRefused("1 press;", 1, 0);
        Bounds.scriptRefused("tick 1000000000;", 1, 5);
        Bounds.scriptRefused("tick 1;abcdefghi;", 1, 7);

        says("2 range: a number outside its range;");
        Bounds.textRefused("benches 0;", 2, 8);
        Bounds.textRefused("benches 5;", 2, 8);
        Bounds.scriptRefused("tick 999999999;", 2, 5);

        says("3 twice: the word of a second benches or life;");
        Bounds.textRefused("benches 1;benches", 3, 10);
        Bounds.textRefused("life 1;life 1;", 3, 7);
        Bounds.textRefused("benches 1;life 1;benches 1;", 3, 17);
        Bounds.textRefused("life 1;benches 1;life 1;", 3, 17);
        CountedStudio s = Bounds.textTaken("life 7;benches 2;", 0);
        Check.input(s, "benches 3;life 8;");
        same("in a second text it is the first", s.load(), 0);
        same("also behind an error", Bounds.answer(s, x -> {
            Check.input(x, "benches 3;life 8;x");
            x.load();
            Check.input(x, "benches 4;life 9;");
            return x.load();
        }), 0);
        same("benches", s.count(0), 4);

        says("4 limit: the first word of a 7th press, an 11th recipe, a 17th object, a 41st command.");
        String presses = "press 1;".repeat(6);
        String recipes = "recipe 1 0 0 0 0 0 1;".repeat(10);
        String objects = "object 1 1 1;".repeat(16);
        Bounds.textTaken(presses + recipes + objects + "life 1;benches 1;", 16);
        Bounds.textRefused(presses + "press", 4, 48);
        Bounds.textRefused(recipes + "recipe", 4, 210);
        Bounds.textRefused(objects + "object", 4, 208);
        Bounds.textRefused(objects + recipes + presses + "press 1;", 4, 466);
        Bounds.textRefused(presses + recipes + objects + " recipe 1 0 0 0 0 0 1;", 4, 467);
        Bounds.textRefused(recipes + presses + objects + "object 1 1 1;", 4, 466);
        Bounds.scriptRefused("tick 1;".repeat(40) + "tick", 4, 280);
        Bounds.scriptRefused("tick 1;".repeat(40) + "plan 0 0;", 4, 280);
    }

    private static void replacing() {
        says("A text of load() without errors replaces everything (time 0, all objects on the shelf) but the output, which stays;"
                + " nothing can be undone then, and there are no snapshots.");
        String some = "press 5;recipe 1 2 1 0 3 4 5;" + "object 5 7 0;".repeat(5);
        for (int k = 0; k < 8; k++) {
            String text = k % 2 == 0 ? "" : some;
            CountedStudio s = Bounds.busy();
            // forecasts, and a text that is refused in its last word, leave nothing behind
            if (k / 2 == 1) Look.state(s);
            if (k / 2 == 2) s.lentIn(1);
            if (k / 2 == 3) {
                s.lentIn(500);
                Check.input(s, "benches 3;life 7;press 1;press 2;recipe 9 9 0 3 9 9 9;object 9 9 3;object 9 9 3;object 9 9 3;x");
                same("refused", s.load(), -3);
            }
            Check.input(s, text);
            same("objects", s.load(), text.isEmpty() ? 0 : 5);
            same("as another one", Look.difference(Look.state(s), Look.state(Bounds.loaded(text))), "the same");
            same("time", s.count(4), 0);
            same("all on the shelf", s.objectsIn(0), text.isEmpty() ? 0 : 31);
            same("output", s.outputByte(0), (int) '2');
            same("nothing to undo", s.undo(), -1);
            for (int place = 0; place <= 1; place++) same("snapshot " + place, s.restoreSnapshot(place), false);
            if (text.isEmpty()) continue;
            // it goes on as another one, too: nothing is left inside
            for (int object = 0; object < 5; object++) s.plan(object, 0);
            CountedStudio other = Bounds.loaded(text);
            for (int object = 0; object < 5; object++) other.plan(object, 0);
            s.tick(9);
            other.tick(9);
            same("goes on as another one", Look.difference(Look.state(s), Look.state(other)), "the same");
        }
    }

    /** The state but for the number of calls that can be undone. */
    private static List<String> state(CountedStudio s) {
        List<String> lines = new ArrayList<>(Look.state(s));
        lines.removeIf(line -> line.startsWith("count 12:"));
        return lines;
    }

    private static void undone(String what, Bounds.Call call) {
        CountedStudio s = Bounds.busy();
        s.undo();
        List<String> before = state(s);
        same(what + ": to undo ahead of it", s.count(12), 9);
        same(what + " is done", call.of(s) instanceof Integer && (Integer) call.of(Bounds.busy()) >= 0, true);
        same(what + " can be undone", s.count(12), 10);
        same(what + " is undone", s.undo(), 9);
        same(what + ": as ahead of it", Look.difference(state(s), before), "the same");
    }


    private static void stepsBack() {
        says("STEPS BACK. plan(), cancel(), clearQueue(), exchange(), approve(), lend(), recall() and tick() (also by a script)"
                + " can be undone if they do not throw and return no error code,");
        undone("plan", s -> s.plan(0, 0));
        undone("cancel", s -> s.cancel(4));
        undone("clearQueue", s -> s.clearQueue(4));
        undone("exchange", s -> s.exchange(4, 0, 1));
        undone("approve", s -> s.approve(4));
        undone("lend", s -> s.lend(2, 300, 0, 5));
        undone("recall", s -> s.recall(4));
        undone("tick", s -> s.tick(1));
        undone("many hours", s -> s.tick(1000));
        for (String command : new String[] {"plan 0 0;", "cancel 4;", "approve 4;", "lend 2 300 0 5;", "recall 4;", "tick 1;"}) {
            undone("the script " + command, s -> played(s, command));
        }
        refusedCallsAreNotUndone();

        says("also if nothing became different,");
        undone("approve again in the same hour", s -> {
            s.approve(4);
            s.undo();
            return s.approve(4);
        });
        CountedStudio t = Bounds.loaded("recipe 1 0 0 0 0 0 1;object 1 1 1;");
        for (int n = 0; n < 3; n++) t.plan(0, 0);
        List<String> before = state(t);
        same("the same recipes", t.exchange(0, 1, 2), 0);
        same("nothing is different", Look.difference(state(t), before), "the same");
        same("it can be undone", t.count(12), 4);
        same("it is undone", t.undo(), 3);
        same("nor then", Look.difference(state(t), before), "the same");

        says("the latest 10 one by one:");
        for (int calls = 0; calls <= 25; calls++) {
            CountedStudio s = Bounds.loaded("object 1 1 1;");
            for (int n = 0; n < calls; n++) s.tick(n + 1);
            int kept = Math.min(calls, 10);
            same("of " + calls, s.count(12), kept);
            for (int n = 1; n <= kept; n++) {
                same("undo " + n + " of " + calls, s.undo(), kept - n);
                int left = calls - n;
                same("the time then", s.count(4), left * (left + 1) / 2);
            }
            same("no more of " + calls, s.undo(), -1);
            same("and nothing is different by it", s.count(4), (calls - kept) * (calls - kept + 1) / 2);
        }
        ringOfCalls();

        says("all is as ahead of it, but for the input buffer, the error, the output and the snapshots.");
        CountedStudio s = Bounds.busy();
        s.saveSnapshot(0);
        s.plan(0, 1);
        s.write(0);
        Check.input(s, "x");
        s.load();
        Check.input(s, "tick 7;");
        s.saveSnapshot(1);
        s.undo();
        same("the input buffer", Look.bufferLength(s), 7);
        same("the error", s.errorCode(), 1);
        same("the output", s.outputByte(0), (int) '1');
        same("the queue is back", s.object(0, 5), 0);
        s.restoreSnapshot(1);
        same("the snapshot", s.object(0, 5), 1);
        s.restoreSnapshot(0);
        same("the other one", s.object(0, 5), 0);
        same("the script", s.play(), 1);
    }

    private static void refusedCallsAreNotUndone() {
        Bounds.Call[] calls = {s -> s.plan(5, 0), s -> s.plan(0, 3), s -> s.cancel(2), s -> s.clearQueue(2), s -> s.exchange(4, 0, 2),
            s -> s.approve(0), s -> s.approve(2), s -> s.lend(4, 0, 0, 1), s -> s.lend(0, 0, 0, 0), s -> s.recall(0), s -> s.tick(0)};
        for (int k = 0; k < calls.length; k++) {
            CountedStudio s = Bounds.loaded("recipe 1 0 0 0 0 0 1;recipe 2 0 0 0 0 0 1;" + "object 1 1 0;".repeat(5));
            s.plan(4, 0);
            s.plan(4, 1);
            s.lend(4, 5, 0, 1);
            s.plan(0, 0);
            Bounds.answer(s, calls[k]);
            same("not undone: call " + k, s.count(12), 4);
            same("the one ahead of it is: call " + k, s.undo(), 3);
            same("plan is gone: call " + k, s.object(0, 5), 0);
        }
        CountedStudio full = Bounds.full();
        for (int n = 0; n < 8; n++) full.plan(0, 0);
        full.plan(0, 0);
        same("FULL is not undone", full.undo(), 7);
        CountedStudio late = Bounds.at(20000, new CountedStudio());
        late.tick(1);
        late.undo();
        same("nor FULL of tick", late.count(4), 19000);
    }

    /** Going back and forth in the ring of the latest ten. */
    private static void ringOfCalls() {
        CountedStudio s = Bounds.loaded("object 1 1 1;");
        for (int n = 0; n < 13; n++) s.tick(1);
        for (int n = 0; n < 4; n++) s.undo();
        same("13 less 4", s.count(4), 9);
        same("six are left", s.count(12), 6);
        for (int n = 0; n < 3; n++) s.tick(100);
        same("nine again", s.count(12), 9);
        for (int n = 0; n < 3; n++) s.tick(10);
        same("ten again", s.count(12), 10);
        int[] times = {329, 319, 309, 209, 109, 9, 8, 7, 6, 5};
        for (int n = 0; n < 10; n++) {
            same("undo " + n, s.undo(), 9 - n);
            same("time " + n, s.count(4), times[n]);
        }
        same("no more", s.undo(), -1);
    }

    private static void exceptions() {
        says("Exceptions are checked in the order in which a method lists them.");
        Bounds.Call[] objectsFirst = {s -> s.lend(5, -1, -1, 0), s -> s.stepsTo(5, 0, -1), s -> s.stepsTo(0, 3, -1), s -> s.quickestTo(-1, 1001),
            s -> s.cheapestTo(-1, 1001), s -> s.recordsOf(5, 3), s -> s.readyAt(5, 0), s -> s.scoreIn(5, 501), s -> s.readyAt(-1, 501),
            s -> s.scoreIn(-1, 0), s -> s.recordsOf(-1, -1)};
        for (int k = 0; k < objectsFirst.length; k++) Bounds.refused("call " + k, Bounds::busy, Bounds.NO_SUCH, objectsFirst[k]);
        Bounds.refused("bill", () -> HourBounds.owing(0), Bounds.NO_SUCH, s -> s.bill(2));
        Bounds.refused("billAhead", () -> HourBounds.owing(0), Bounds.NO_SUCH, s -> s.billAhead(-1));
        Bounds.refused("ahead of a loan that waits", Bounds::busy, Bounds.BAD, s -> s.lend(4, 0, 0, 501));
        Bounds.refused("ahead of a place", Bounds::busy, Bounds.NO_SUCH, s -> s.exchange(5, 0, 0));
        Bounds.refused("ahead of the end of time", () -> Bounds.at(20000, new CountedStudio()), Bounds.BAD, s -> s.tick(1001));
        Bounds.refused("ahead of a full queue", TextBounds::fullQueue, Bounds.NO_SUCH, s -> s.plan(0, 10));

        says("A call that throws an exception, or returns false or an error code, changes nothing, except where its description says so.");
        Bounds.refused("throws", Bounds::busy, Bounds.NO_SUCH, s -> s.plan(4, 3));
        Bounds.refused("returns false", Bounds::busy, false, s -> s.saveSnapshot(2));
        Bounds.refused("returns false", CountedStudio::new, false, s -> s.restoreSnapshot(0));
        Bounds.refused("returns NONE", Bounds::busy, -1, s -> s.truncateInput(1000));
        Bounds.refused("returns FULL", TextBounds::fullQueue, -2, s -> s.plan(0, 0));
        Bounds.refused("returns REFUSED", Bounds::busy, -4, s -> s.cancel(2));
        CountedStudio s = Bounds.busy();
        List<String> before = Look.state(s);
        Check.input(s, "?");
        same("returns TEXT_ERROR", s.play(), -3);
        same("changes nothing else", Look.difference(Look.state(s), before), "the same");
    }

    static CountedStudio fullQueue() {
        CountedStudio s = Bounds.full();
        for (int n = 0; n < 8; n++) s.plan(0, n);
        return s;
    }

    private static void constants() {
        says("The constants: NONE = -1: There is none. FULL = -2: Error code: there is no room for more."
                + " TEXT_ERROR = -3: Error code: the text has an error. REFUSED = -4: Error code: this is not possible now.");
        same("NONE", RepairStudio.NONE, -1);
        same("FULL", RepairStudio.FULL, -2);
        same("TEXT_ERROR", RepairStudio.TEXT_ERROR, -3);
        same("REFUSED", RepairStudio.REFUSED, -4);
    }
}
