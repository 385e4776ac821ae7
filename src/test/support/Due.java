/** Feeds texts to a StoryRound, and compares its answers with those that are due. */
final class Due {
    private static int asked = 0;
    private static int wrong = 0;

    private Due() {
    }

    static void is(String what, long got, long want) {
        asked++;
        if (got != want) {
            wrong++;
            System.out.println(what + " answered " + got + ", due is " + want);
        }
    }

    /** The text comes to the tape, eight bytes at a time; characters are bytes. */
    static void feed(StoryRound x, String text) {
        for (int from = 0; from < text.length(); from += 8) {
            int n = Math.min(8, text.length() - from);
            long word = 0;
            for (int i = 0; i < n; i++) {
                word |= (text.charAt(from + i) & 255L) << (8 * i);
            }
            is("feed of '" + text.substring(from, from + n) + "'", x.feed(word, n) < 0 ? 1 : 0, 0);
        }
    }

    static StoryRound story(String text) {
        StoryRound x = new StoryRound();
        feed(x, text);
        int bodies = x.compile();
        is("whether '" + text + "' is a story (" + bodies + ")", bodies > 0 ? 1 : 0, 1);
        return x;
    }

    /** What compile() answers to a text. */
    static int compiled(String text) {
        StoryRound x = new StoryRound();
        feed(x, text);
        return x.compile();
    }

    static void fault(String text, int place) {
        is("compile of '" + text + "'", compiled(text), -10 - place);
    }

    /** Where a mark stands in a text: at the byte that follows '^', which is taken out. */
    static void faultAtMark(String marked) {
        int place = marked.indexOf('^');
        fault(marked.substring(0, place) + marked.substring(place + 1), place);
    }

    static void bodies(String text, int bodies) {
        is("compile of '" + text + "'", compiled(text), bodies);
    }

    /** All lines as "voice:value", with a blank between. */
    static void lines(StoryRound x, String want) {
        StringBuilder got = new StringBuilder();
        for (int i = 0; i < x.lines() && i < 300; i++) {
            got.append(i == 0 ? "" : " ").append(x.line(i, 0)).append(':').append(x.line(i, 1));
        }
        same("lines", got.toString(), want);
    }

    /** All handings as "from>to", with a blank between. */
    static void handings(StoryRound x, String want) {
        StringBuilder got = new StringBuilder();
        for (int i = 0; i < x.handings() && i < 300; i++) {
            got.append(i == 0 ? "" : " ").append(x.handing(i, 0)).append('>').append(x.handing(i, 1));
        }
        same("handings", got.toString(), want);
    }

    /** All failures as "depth way number value voice place", with a comma between. */
    static void failures(StoryRound x, String want) {
        StringBuilder got = new StringBuilder();
        for (int i = 0; i < x.failures(); i++) {
            got.append(i == 0 ? "" : ", ").append(x.failure(i, 4)).append(' ').append(x.failure(i, 5));
            for (int what = 0; what < 4; what++) {
                got.append(' ').append(x.failure(i, what));
            }
        }
        same("failures", got.toString(), want);
    }

    static void states(StoryRound x, String want) {
        StringBuilder got = new StringBuilder();
        for (int v = 1; v <= x.count(1); v++) {
            got.append(x.told(v, 0));
        }
        same("states", got.toString(), want);
    }

    static void same(String what, String got, String want) {
        asked++;
        if (!got.equals(want)) {
            wrong++;
            StackTraceElement[] stack = new Throwable().getStackTrace();
            System.out.println(stack[2] + ": " + what + " are '" + got + "', due are '" + want + "'");
        }
    }

    static void end() {
        System.out.println(asked + " asked, " + wrong + " not as due");
        if (wrong != 0) {
            System.exit(1);
        }
    }
}
