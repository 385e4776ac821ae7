/** The edges of promises 14 to 22 and of GUARDS: the last that is kept or told, and the first that is not. */
public final class CameEdgeTest {
    private static final int BAD = StoryRound.BAD, NONE = StoryRound.NONE;
    private static final int LEAST = Integer.MIN_VALUE, GREATEST = Integer.MAX_VALUE;

    public static void main(String[] args) {
        linesAroundThreeHundred();
        handingsAroundThreeHundred();
        pairsRefuse();
        failuresAroundForty();
        fortyBeneath();
        fortyOfEachKind();
        failureRefuses();
        failuresOfEveryNumber();
        guardsOfTheDeepest();
        catchNumbersAtTheEnds();
        catchWithoutNumber();
        catchStandsFirst();
        finallyCounts();
        causeOfTheInnermost();
        beneathInOrder();
        beneathAnew();
        ringRefuses();
        ringOfOneToTwelve();
        ringIsTheLatest();
        countRefuses();
        digestOfNothing();
        digestOfStates();
        digestAtTheEnds();
        Due.end();
    }

    private static long mix(long h, long... values) {
        for (long v : values) {
            h = 31 * h + v;
        }
        return h;
    }

    private static StoryRound withLines(int n) {
        StoryRound x = Due.story("voice m(n){while(n){tell n;n=n-1;}}");
        x.voice(0, n);
        Due.is("resume", x.resume(1, 0), 1);
        return x;
    }

    private static void linesAroundThreeHundred() {
        int[] numbers = {0, 1, 299, 300, 301, 600};
        for (int n : numbers) {
            StoryRound x = withLines(n);
            Due.is("lines", x.lines(), n);
            int kept = Math.min(n, 300);
            long h = mix(17, 4, 0, 1 + 3 * n, 0, 0, 0, 0);
            for (int i = 0; i < kept; i++) {
                Due.is("voice of line " + i, x.line(i, 0), 1);
                Due.is("value of line " + i, x.line(i, 1), n - i);
                h = mix(h, 1, n - i);
            }
            Due.is("one behind the last that is kept", x.line(kept, 0), NONE);
            Due.is("one behind the last that is kept", x.line(kept, 1), NONE);
            Due.is("digest of the kept", x.digest(), mix(h, 0, 1, 1, 0, 1 + 3 * n));
        }
    }

    private static void handingsAroundThreeHundred() {
        // Each resume of one that yields is two handings; one that is not begun fails without any.
        int[] numbers = {0, 1, 149, 150, 151, 200};
        for (int n : numbers) {
            StoryRound x = Due.story("voice m(){while(1){yield 0;}}");
            x.voice(0, 0);
            for (int i = 0; i < n; i++) {
                Due.is("resume", x.resume(1, 0), 0);
            }
            Due.is("handings", x.handings(), 2 * n);
            int kept = Math.min(2 * n, 300);
            long h = mix(17, n == 0 ? 0 : 1, 0, 2 * n, 0, n == 0 ? 0 : 1, n == 0 ? NONE : 0, 0);
            for (int i = 0; i < kept; i++) {
                Due.is("from of handing " + i, x.handing(i, 0), i % 2);
                Due.is("to of handing " + i, x.handing(i, 1), 1 - i % 2);
                h = mix(h, i % 2, 1 - i % 2);
            }
            Due.is("one behind the last that is kept", x.handing(kept, 0), NONE);
            Due.is("one behind the last that is kept", x.handing(kept, 1), NONE);
            Due.is("digest of the kept", x.digest(), mix(h, 2 * n));
        }
    }

    private static void pairsRefuse() {
        StoryRound x = withLines(2);
        int[] wrong = {-1, 2, LEAST, GREATEST};
        for (int n : wrong) {
            Due.is("line, what " + n, x.line(0, n), BAD);
            Due.is("handing, what " + n, x.handing(0, n), BAD);
            Due.is("line, what is looked at first", x.line(n, n), BAD);
            Due.is("handing, what is looked at first", x.handing(n, n), BAD);
            Due.is("line " + n, x.line(n, 1), NONE);
            Due.is("handing " + n, x.handing(n, 1), NONE);
        }
    }

    private static StoryRound played(String text) {
        StoryRound x = Due.story(text);
        x.voice(0, 0);
        Due.is(text, x.resume(1, 0), 2);
        return x;
    }

    private static void failuresAroundForty() {
        // f(n) throws n and what the inner call threw is its cause: n + 1 in all.
        int[] numbers = {0, 1, 38, 39, 40, 57};
        for (int n : numbers) {
            StoryRound x = played("voice m(){f(" + n + ");}do f(n){if(n){try{f(n-1);}catch e{throw 1 n;}}throw 2 0;}");
            int told = Math.min(40, n + 1);
            Due.is("failures", x.failures(), told);
            for (int i = 0; i < told; i++) {
                Due.is("number", x.failure(i, 0), i == n ? 2 : 1);
                Due.is("value", x.failure(i, 1), n - i);
                Due.is("how far down", x.failure(i, 4), i);
                Due.is("how it came", x.failure(i, 5), i == 0 ? 0 : 1);
            }
            Due.is("one behind the last", x.failure(told, 0), BAD);
        }
    }

    private static void fortyBeneath() {
        // Each finally calls the next; the innermost takes the place of all, and they lie beneath it in turn.
        int[] numbers = {1, 38, 39, 40, 57};
        for (int n : numbers) {
            StoryRound x = played("voice m(){f(" + n + ");}do f(n){if(n){try{throw 1 n;}finally{f(n-1);}}throw 2 0;}");
            int told = Math.min(40, n + 1);
            Due.is("failures", x.failures(), told);
            Due.is("the first", x.failure(0, 0), 2);
            for (int i = 1; i < told; i++) {
                Due.is("value", x.failure(i, 1), i);
                Due.is("how far down", x.failure(i, 4), 1);
                Due.is("how it came", x.failure(i, 5), 2);
            }
            Due.is("one behind the last", x.failure(told, 0), BAD);
        }
    }

    private static void fortyOfEachKind() {
        // What catch k threw has what catch k - 1 threw as its cause, and beneath it one with the same cause.
        StringBuilder text = new StringBuilder("voice m(){");
        int levels = 7;
        text.append("try{".repeat(levels)).append("throw 0 0;");
        for (int k = 1; k <= levels; k++) {
            text.append("}catch e{try{throw 5 ").append(k).append(";}finally{throw 6 ").append(k).append(";}}");
        }
        StoryRound x = played(text.append("}").toString());
        StringBuilder due = new StringBuilder();
        list(due, levels, 0, 0);
        String[] all = due.toString().split(";");
        Due.is("more than forty there are", all.length > 40 ? 1 : 0, 1);
        Due.is("forty are told", x.failures(), 40);
        for (int i = 0; i < 40; i++) {
            Due.same("failure " + i, x.failure(i, 4) + " " + x.failure(i, 5) + " " + x.failure(i, 0) + " " + x.failure(i, 1), all[i]);
        }
    }

    /** The failure of level k, its cause (that of level k - 1), and the one beneath it with the same cause. */
    private static void list(StringBuilder due, int k, int depth, int way) {
        due.append(depth).append(' ').append(way).append(k == 0 ? " 0 " : " 6 ").append(k).append(';');
        if (k > 0) {
            list(due, k - 1, depth + 1, 1);
            due.append(depth + 1).append(" 2 5 ").append(k).append(';');
            list(due, k - 1, depth + 2, 1);
        }
    }

    private static void failureRefuses() {
        StoryRound x = Due.story("voice m(){throw 1 2;}");
        Due.is("none came", x.failures(), 0);
        Due.is("none such", x.failure(0, 0), BAD);
        x.voice(0, 0);
        x.resume(1, 0);
        int[] wrong = {-1, 1, 40, LEAST, GREATEST};
        for (int i : wrong) {
            Due.is("failure " + i, x.failure(i, 0), BAD);
        }
        int[] wrongWhat = {-1, 6, LEAST, GREATEST};
        for (int what : wrongWhat) {
            Due.is("what " + what, x.failure(0, what), BAD);
        }
        int[] due = {1, 2, 1, 10, 0, 0};
        for (int what = 0; what < 6; what++) {
            Due.is("what " + what, x.failure(0, what), due[what]);
        }
    }

    private static void failuresOfEveryNumber() {
        for (int n = 0; n <= 9; n++) {
            Due.failures(played("voice m(){throw " + n + " -1;}"), "0 0 " + n + " -1 1 10");
        }
        Due.failures(played("voice m(){close 0;}"), "0 0 10 0 1 10");
        Due.failures(played("voice m(){0%0;}"), "0 0 11 0 1 10");
        Due.failures(played("voice m(){f();}do f(){f();}"), "0 0 12 0 1 22");
        Due.failures(played("voice m(){while(1){new m();}}"), "0 0 13 0 1 19");
        StoryRound x = Due.story("voice m(){try{yield 1;}finally{0/0;}}");
        x.voice(0, 0);
        x.resume(1, 0);
        Due.is("close", x.close(1), 2);
        Due.failures(x, "0 0 11 0 1 31, 1 2 14 0 0 -9");
        x = Due.story("voice m(){a=new k();resume a with 0;close a;}voice k(){try{yield 1;}finally{0/0;}}");
        x.voice(0, 0);
        Due.is("close by a voice", x.resume(1, 0), 2);
        Due.failures(x, "0 0 11 0 2 76, 1 2 14 0 1 36");
    }

    private static void guardsOfTheDeepest() {
        // 23 guards may be open in one body: each of them finishes.
        String open = "voice m(n){" + "try{".repeat(23);
        String close = "}finally{n=n+1;}".repeat(23) + "}";
        StoryRound x = Due.story(open + "return n;" + close);
        x.voice(0, 5);
        Due.is("a return", x.resume(1, 0), 1);
        Due.is("was worked out ahead", x.answer(), 5);
        Due.is("finished", x.told(1, 3), 23);
        x = Due.story(open + "throw 1 n;" + close);
        x.voice(0, 5);
        Due.is("a failure", x.resume(1, 0), 2);
        Due.is("finished", x.told(1, 3), 23);
        // A yield opens, too, so that it stands in 22 of them at most.
        x = Due.story("voice m(n){" + "try{".repeat(22) + "yield n;" + "}finally{n=n+1;}".repeat(22) + "tell n;}");
        x.voice(0, 5);
        x.resume(1, 0);
        Due.is("closed", x.close(1), 1);
        Due.is("finished", x.told(1, 3), 22);
        Due.lines(x, "");
        x = Due.story("voice m(n){try{throw 7 7;}catch f{" + "try{".repeat(22) + "throw 1 n;" + "}catch 2 e{}".repeat(22) + "}}");
        x.voice(0, 5);
        x.resume(1, 0);
        Due.is("the cause is of the outermost", x.failures(), 2);
        Due.is("the cause", x.failure(1, 0), 7);
    }

    private static void catchNumbersAtTheEnds() {
        String[] wrong = {"10", "12", "3", "13", "999999999"};
        for (String n : wrong) {
            StoryRound x = played("voice m(){try{throw 2 5;}catch " + n + " e{tell 1;}}");
            Due.lines(x, "");
        }
        for (int n = 0; n <= 9; n++) {
            StoryRound x = Due.story("voice m(){try{throw " + n + " 5;}catch 00" + n + " e{tell e;}}");
            x.voice(0, 0);
            Due.is("caught", x.resume(1, 0), 1);
            Due.lines(x, "1:5");
        }
        StoryRound x = Due.story("voice m(){try{yield 1;}catch 14 e{tell 1;}catch 4 e{tell 2;}}");
        x.voice(0, 0);
        x.resume(1, 0);
        Due.is("14 is caught by none", x.close(1), 1);
        Due.lines(x, "");
    }

    private static void catchWithoutNumber() {
        String[] fails = {"throw 0 4;", "throw 9 4;", "close 0;", "1/0;", "f();", "while(1){new m();}"};
        for (String fail : fails) {
            StoryRound x = Due.story("voice m(){try{" + fail + "}catch e{return e+1;}}do f(){f();}");
            x.voice(0, 0);
            Due.is(fail, x.resume(1, 0), 1);
            Due.is(fail, x.answer(), fail.startsWith("throw") ? 5 : 1);
        }
    }

    private static void catchStandsFirst() {
        StoryRound x = Due.story("voice m(n){try{throw 1 n;}catch 1 e{tell 1;throw 2 n;}catch 2 e{tell 2;}catch e{tell 3;}finally{tell 4;}}");
        x.voice(0, 6);
        Due.is("a failure in a catch is for none beside it", x.resume(1, 0), 2);
        Due.lines(x, "1:1 1:4");
        x = Due.story("voice m(n){try{}catch e{tell 1;}try{}catch e{tell 2;}finally{tell 3;}throw 1 1;}");
        x.voice(0, 6);
        Due.is("a failure behind a try is for none in it", x.resume(1, 0), 2);
        Due.lines(x, "1:3");
    }

    private static void finallyCounts() {
        String[] tries = {"try{}finally{}", "try{throw 1 1;}catch e{}finally{}", "try{throw 1 1;}finally{}", "try{return;}finally{}",
            "try{throw 1 1;}catch e{return;}finally{}", "try{throw 1 1;}catch e{throw 1 1;}finally{}", "try{}finally{throw 1 1;}", "try{}finally{return;}"};
        for (String one : tries) {
            StoryRound x = Due.story("voice m(){" + one + "}");
            x.voice(0, 0);
            x.resume(1, 0);
            Due.is("finished of " + one, x.told(1, 3), 1);
        }
        StoryRound x = Due.story("voice m(){try{}catch e{}}");
        x.voice(0, 0);
        x.resume(1, 0);
        Due.is("no finally", x.told(1, 3), 0);
        x = Due.story("voice m(){f();f();}do f(){try{}finally{}}");
        x.voice(0, 0);
        x.resume(1, 0);
        Due.is("those of procedures count", x.told(1, 3), 2);
    }

    private static void causeOfTheInnermost() {
        String text = "voice m(){try{throw 1 1;}catch e{try{throw 2 2;}catch f{try{throw 3 3;}finally{throw 4 4;}}}}";
        StoryRound x = played(text);
        String two = "2 2 1 " + text.indexOf("throw 2");
        String one = "1 1 1 " + text.indexOf("throw 1");
        Due.failures(x, "0 0 4 4 1 " + text.indexOf("throw 4") + ", 1 1 " + two + ", 2 1 " + one
                + ", 1 2 3 3 1 " + text.indexOf("throw 3") + ", 2 1 " + two + ", 3 1 " + one);
        // The catch of a try whose finally runs runs no more.
        text = "voice m(){try{throw 1 1;}catch e{try{throw 2 2;}catch f{}finally{throw 3 3;}}}";
        Due.failures(played(text), "0 0 3 3 1 " + text.indexOf("throw 3") + ", 1 1 1 1 1 14");
    }

    private static void beneathInOrder() {
        // 2 takes the place of 1; then 3, which has 4's place taken, takes the place of 2: behind what is there.
        String text = "voice m(){try{try{throw 1 1;}finally{throw 2 2;}}finally{try{throw 4 4;}finally{throw 3 3;}}}";
        Due.failures(played(text), "0 0 3 3 1 " + text.indexOf("throw 3") + ", 1 2 4 4 1 " + text.indexOf("throw 4")
                + ", 1 2 2 2 1 " + text.indexOf("throw 2") + ", 2 2 1 1 1 " + text.indexOf("throw 1"));
        // One that is caught in the finally takes no place.
        text = "voice m(){try{throw 1 1;}finally{try{throw 2 2;}catch e{}try{throw 3 3;}finally{return;}}}";
        StoryRound x = Due.story(text);
        x.voice(0, 0);
        Due.is("the return takes the place of both", x.resume(1, 0), 1);
        Due.is("none came out", x.failures(), 0);
    }

    private static void beneathAnew() {
        StoryRound x = played("voice m(){try{throw 1 1;}finally{try{throw 2 2;}finally{throw 3 3;}}}");
        Due.is("two beneath", x.failures(), 3);
        Due.feed(x, "voice m(){try{0/0;}catch e{}try{throw 2 2;}finally{throw 3 3;}}");
        Due.is("a new story", x.compile(), 1);
        x.voice(0, 0);
        x.resume(1, 0);
        Due.failures(x, "0 0 3 3 1 51, 1 2 2 2 1 32");
    }

    private static void ringRefuses() {
        StoryRound x = played("voice m(){close me;}");
        int[] wrong = {-1, 1, 12, LEAST, GREATEST};
        for (int i : wrong) {
            Due.is("ring " + i, x.ring(i), NONE);
        }
        Due.is("ring 0", x.ring(0), 1);
    }

    private static void ringOfOneToTwelve() {
        for (int n = 1; n <= 12; n++) {
            StoryRound x = Due.story("voice a(n){if(n){resume new a(n-1) with 0;}close 1;}");
            x.voice(0, n - 1);
            Due.is("resume", x.resume(1, 0), 2);
            for (int i = 0; i < n; i++) {
                Due.is("ring of " + n + ", " + i, x.ring(i), n - i);
            }
            Due.is("ring of " + n, x.ring(n), NONE);
        }
    }

    private static void ringIsTheLatest() {
        StoryRound x = Due.story("voice a(n){resume new b(n) with 0;}voice b(n){try{resume n with 0;}catch 10 e{}try{close me;}catch 10 e{}try{hand 0 with 0;}catch 10 e{}}");
        x.voice(0, 1);
        Due.is("resume", x.resume(1, 0), 1);
        Due.is("that of the close", x.ring(0), 2);
        Due.is("nothing of the older one", x.ring(1), NONE);
    }

    private static void countRefuses() {
        StoryRound x = Due.story("voice a(){yield 1;}");
        int[] fresh = {1, 0, 0, 0, 0};
        for (int what = 0; what < 5; what++) {
            Due.is("count " + what, x.count(what), fresh[what]);
        }
        int[] wrong = {-1, 5, LEAST, GREATEST};
        for (int what : wrong) {
            Due.is("count " + what, x.count(what), BAD);
        }
    }

    private static void digestOfNothing() {
        StoryRound x = new StoryRound();
        Due.is("no story", x.digest(), 0);
        Due.feed(x, "voice a(){}");
        x.compile();
        Due.is("a story", x.digest(), 31 * 17);
        x.compile();
        Due.is("no story again", x.digest(), 0);
    }

    private static void digestOfStates() {
        // 1 has ended, 2 has failed, 3 is closed, 4 is at a yield in a call, 5 is not begun.
        StoryRound x = Due.story("voice a(n){f(n);}do f(m){p=m+1;yield m;}");
        for (int i = 1; i <= 5; i++) {
            x.voice(0, 10 * i);
        }
        x.resume(1, 0);
        x.resume(1, 0);
        x.inject(2, 3, 4);
        x.resume(3, 0);
        x.close(3);
        x.resume(4, 0);
        long h = mix(17, 4, 0, 4, 0, 0, 0, 0, 5, 0, 0, 0, 0, NONE, 0, 6, 0, 4, 0, 0, 0, 0);
        h = mix(h, 1, 0, 4, 0, 2, 0, 0, 40, 41, 40, 0, 0, 0, 0, 0, NONE, 0);
        h = mix(h, 0, 1, 1, 0, 0, 1, 1, 0, 0, 3, 3, 0, 0, 3, 3, 0, 0, 4, 4, 0);
        Due.is("digest", x.digest(), mix(h, 12));
    }

    private static void digestAtTheEnds() {
        StoryRound x = Due.story("voice a(n){tell n;tell -1-n;yield 0;}");
        x.voice(0, LEAST);
        x.resume(1, 0);
        Due.is("negative values", x.digest(), mix(17, 1, 0, 3, 0, 1, 0, 0, LEAST, 1, LEAST, 1, GREATEST, 0, 1, 1, 0, 3));
    }
}
