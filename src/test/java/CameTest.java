/** Promises 14 to 17 and 20 to 22: lines, line, handings, handing, ring, count, digest. */
public final class CameTest {
    private static final int BAD = StoryRound.BAD, NONE = StoryRound.NONE;

    public static void main(String[] args) {
        lines();
        handings();
        pairsBeyondTheKept();
        ring();
        ringOfEachKind();
        count();
        digest();
        digestOfMany();
        digestOfTheKept();
        Due.end();
    }

    private static void lines() {
        StoryRound x = Due.story("voice m(n){tell n;tell n*n;}");
        Due.is("none", x.lines(), 0);
        Due.is("none such", x.line(0, 0), NONE);
        Due.is("BAD is ahead of NONE", x.line(0, 2), BAD);
        x.voice(0, 4);
        x.voice(0, -5);
        x.resume(2, 0);
        x.resume(1, 0);
        Due.is("lines", x.lines(), 4);
        int[][] due = {{2, -5}, {2, 25}, {1, 4}, {1, 16}};
        for (int i = 0; i < 4; i++) {
            Due.is("voice of line " + i, x.line(i, 0), due[i][0]);
            Due.is("value of line " + i, x.line(i, 1), due[i][1]);
            Due.is("what 2", x.line(i, 2), BAD);
            Due.is("what -1", x.line(i, -1), BAD);
        }
        Due.is("line 4", x.line(4, 0), NONE);
        Due.is("line -1", x.line(-1, 1), NONE);
        Due.is("the greatest line", x.line(Integer.MAX_VALUE, 1), NONE);
    }

    private static void handings() {
        StoryRound x = Due.story("voice m(a){resume a with 0;hand a with 0;}voice k(){yield 1;throw 1 1;}");
        Due.is("none", x.handings(), 0);
        Due.is("none such", x.handing(0, 1), NONE);
        x.voice(0, 2);
        x.voice(1, 0);
        Due.is("resume", x.resume(1, 0), 2);
        Due.is("handings", x.handings(), 5);
        Due.handings(x, "0>1 1>2 2>1 1>2 2>0");
        Due.states(x, "15");
        Due.is("what -1", x.handing(0, -1), BAD);
        Due.is("what 2", x.handing(0, 2), BAD);
        Due.is("BAD is ahead of NONE", x.handing(9, 2), BAD);
        Due.is("handing 5", x.handing(5, 0), NONE);
        Due.is("handing -1", x.handing(-1, 0), NONE);
    }

    private static void pairsBeyondTheKept() {
        StoryRound x = Due.story("voice m(n){while(n){n=n-1;tell n;}}voice g(n){while(n){n=n-1;yield n;}}voice h(a){each v of a{}}");
        x.voice(0, 301);
        x.resume(1, 0);
        Due.is("lines", x.lines(), 301);
        Due.is("the 300th is kept", x.line(299, 1), 1);
        Due.is("the 301st is not", x.line(300, 1), NONE);
        x.voice(1, 300);
        x.voice(2, 2);
        x.resume(3, 0);
        Due.is("handings", x.handings(), 2 + 1 + 602 + 1);
        Due.is("the 300th is kept", x.handing(299, 0), 3);
        Due.is("the 300th is kept", x.handing(299, 1), 2);
        Due.is("the 301st is not", x.handing(300, 0), NONE);
        Due.is("the 301st is not", x.handing(300, 1), NONE);
    }

    private static void ring() {
        StoryRound x = Due.story("voice a(n){if(n<5){resume (n+1) with 0;}resume 2 with 0;}");
        for (int i = 1; i <= 5; i++) {
            x.voice(0, i);
        }
        Due.is("no ring", x.ring(0), NONE);
        Due.is("resume", x.resume(1, 0), 2);
        int[] due = {5, 4, 3, 2, NONE, NONE};
        for (int i = 0; i < due.length; i++) {
            Due.is("ring " + i, x.ring(i), due[i]);
        }
        Due.is("ring -1", x.ring(-1), NONE);
        Due.is("the greatest", x.ring(Integer.MAX_VALUE), NONE);
        x.voice(0, 6);
        Due.is("a misuse of one that is over", x.resume(6, 0), 2);
        Due.is("the ring stays", x.ring(0), 5);
        x = Due.story("voice a(n){if(n<12){resume (n+1) with 0;}resume 1 with 0;}");
        for (int i = 1; i <= 12; i++) {
            x.voice(0, i);
        }
        x.resume(1, 0);
        for (int i = 0; i < 12; i++) {
            Due.is("ring of twelve, " + i, x.ring(i), 12 - i);
        }
        Due.is("ring of twelve", x.ring(12), NONE);
    }

    private static void ringOfEachKind() {
        String[] kinds = {"resume 1 with 0;", "inject 1 into 1 with 0;", "hand 1 with 0;", "close 1;", "each x of 1{}"};
        for (String kind : kinds) {
            StoryRound x = Due.story("voice a(n){resume 2 with 0;}voice b(){hand 3 with 0;}voice c(){" + kind + "}");
            for (int i = 0; i < 3; i++) {
                x.voice(i, 0);
            }
            Due.is(kind, x.resume(1, 0), 2);
            Due.states(x, "515");
            Due.is(kind, x.ring(0), 3);
            Due.is(kind, x.ring(1), 1);
            Due.is(kind, x.ring(2), NONE);
        }
    }

    private static void count() {
        StoryRound x = Due.story("voice m(){new k();new k();}do p(){}voice k(){}");
        x.voice(0, 0);
        x.resume(1, 0);
        int[] due = {3, 3, 2, 2, 0};
        for (int what = 0; what < 5; what++) {
            Due.is("count " + what, x.count(what), due[what]);
        }
        Due.is("count -1", x.count(-1), BAD);
        Due.is("count 5", x.count(5), BAD);
    }

    private static long mix(long h, long... values) {
        for (long v : values) {
            h = 31 * h + v;
        }
        return h;
    }

    private static void digest() {
        StoryRound x = Due.story("voice m(a){b=3;tell 8;f(4);}do f(c){d=-6;yield 5;}");
        Due.is("no voice", x.digest(), mix(17, 0));
        x.voice(0, 2);
        Due.is("not begun", x.digest(), mix(17, 0, 0, 0, 0, 0, NONE, 0, 0));
        x.resume(1, 0);
        Due.is("two calls are open", x.digest(), mix(17, 1, 0, 6, 0, 2, 0, 0, 4, -6, 2, 3, 1, 8, 0, 1, 1, 0, 6));
        x.resume(1, 0);
        Due.is("it ended", x.digest(), mix(17, 4, 0, 6, 0, 0, 0, 0, 1, 8, 0, 1, 1, 0, 0, 1, 1, 0, 6));
    }

    private static void digestOfMany() {
        StoryRound x = Due.story("voice m(a){yield a;}voice k(){b=7;yield b;}");
        x.voice(0, 2);
        x.voice(1, 0);
        x.voice(1, 0);
        x.resume(2, 0);
        x.resume(1, 0);
        Due.is("each voice with its variables", x.digest(), mix(17, 1, 0, 1, 0, 1, 0, 0, 2, 1, 1, 2, 0, 1, 0, 0, 7,
                0, 1, 0, 0, 0, NONE, 0, 0, 2, 2, 0, 0, 1, 1, 0, 3));
    }

    private static void digestOfTheKept() {
        StoryRound x = Due.story("voice m(n){while(n){n=n-1;tell n;}}");
        x.voice(0, 305);
        x.resume(1, 0);
        long h = mix(17, 4, 0, 1 + 3 * 305, 0, 0, 0, 0);
        for (int i = 0; i < 300; i++) {
            h = mix(h, 1, 304 - i);
        }
        Due.is("the kept lines alone", x.digest(), mix(h, 0, 1, 1, 0, 1 + 3 * 305));
    }
}
