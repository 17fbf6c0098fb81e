import java.util.concurrent.Callable;

/** What the tests share: comparing, expecting exceptions, and putting texts into a studio. */
final class Check {
    private static int passed;
    private static int failed;

    private Check() {
    }

    static void same(String what, Object got, Object due) {
        if (due.equals(got)) {
            passed++;
        } else {
            failed++;
            System.out.println(what + ": got " + got + ", due is " + due);
        }
    }

    /** The call has to throw exactly the class that is due, no class below it. */
    static void throwsExactly(String what, Class<?> due, Callable<?> call) {
        Object got;
        try {
            got = call.call();
        } catch (Exception e) {
            got = thrown(e);
        }
        same(what, got, due);
    }

    /** The class of an exception; the one of a division by zero is that of a document's exception, but is the machine's own. */
    static Object thrown(Throwable e) {
        return "/ by zero".equals(e.getMessage()) ? "the Java machine divides by zero" : e.getClass();
    }

    static void noObject(String what, Callable<?> call) {
        throwsExactly(what, IndexOutOfBoundsException.class, call);
    }

    static void badValue(String what, Callable<?> call) {
        throwsExactly(what, IllegalArgumentException.class, call);
    }

    static void input(CountedStudio studio, String text) {
        studio.truncateInput(0);
        int padded = (text.length() + 19) / 20 * 20;
        int[] words = new int[padded / 4];
        for (int at = 0; at < text.length(); at++) {
            words[at / 4] |= (text.charAt(at) & 255) << (24 - 8 * (at % 4));
        }
        for (int at = 0; at < words.length; at += 5) {
            studio.appendInput(words[at], words[at + 1], words[at + 2], words[at + 3], words[at + 4]);
        }
        studio.truncateInput(text.length());
    }

    static CountedStudio loaded(String text) {
        CountedStudio studio = new CountedStudio();
        input(studio, text);
        if (studio.load() < 0) {
            same("the text " + text + " is good", studio.errorPosition(), "no error");
        }
        return studio;
    }

    static void report(String name) {
        System.out.println(name + ": " + passed + " checks passed, " + failed + " failed");
        if (failed > 0) {
            System.exit(1);
        }
    }
}
