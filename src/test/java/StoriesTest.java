/** Stories one behind another on one object: nothing of an older one is left (promise 4). */
public final class StoriesTest {
    public static void main(String[] args) {
        behindSpent();
        behindClosing();
        behindFailures();
        bodiesAnew();
        cellsAnew();
        Due.end();
    }

    private static void next(StoryRound x, String text) {
        Due.feed(x, text);
        Due.is(text, x.compile() > 0 ? 1 : 0, 1);
    }

    private static void behindSpent() {
        StoryRound x = Due.story("voice a(){while(1){}}");
        x.voice(0, 0);
        Due.is("spent", x.resume(1, 0), 4);
        next(x, "voice a(n){while(n){n=n-1;}return 3;}");
        Due.is("not spent", x.count(4), 0);
        Due.is("voice", x.voice(0, 2999), 1);
        Due.is("steps anew", x.resume(1, 0), 1);
        Due.is("answer", x.answer(), 3);
        Due.is("steps", x.count(3), 6000);
        Due.is("sweep", x.sweep(), 0);
    }

    private static void behindClosing() {
        StoryRound x = Due.story("voice a(){try{yield 1;}finally{while(1){}}}");
        x.voice(0, 0);
        x.resume(1, 0);
        Due.is("spent while it is closed", x.close(1), 4);
        next(x, "voice a(){yield 1;yield 2;}");
        x.voice(0, 0);
        Due.is("it may yield", x.resume(1, 0), 0);
        Due.is("it may yield again", x.resume(1, 0), 0);
        Due.is("it ends", x.resume(1, 0), 1);
        Due.is("as one that is not closed", x.told(1, 0), 4);
    }

    private static void behindFailures() {
        StoryRound x = Due.story("voice a(){try{throw 1 1;}catch e{try{throw 2 2;}finally{try{throw 3 3;}finally{throw 4 4;}}}}");
        x.voice(0, 0);
        x.resume(1, 0);
        Due.is("itself, two beneath, and the cause of each", x.failures(), 6);
        next(x, "voice a(){try{throw 1 1;}finally{throw 2 2;}}");
        Due.is("none came", x.failures(), 0);
        x.voice(0, 0);
        x.resume(1, 0);
        Due.failures(x, "0 0 2 2 1 33, 1 2 1 1 1 14");
        next(x, "voice a(){throw 1 1;}voice b(){throw 2 2;}");
        x.voice(0, 0);
        x.voice(1, 0);
        x.resume(1, 0);
        Due.failures(x, "0 0 1 1 1 10");
        x.resume(2, 0);
        Due.failures(x, "0 0 2 2 2 31");
    }

    private static void bodiesAnew() {
        StoryRound x = Due.story("do a(p,q,r){}voice b(s){}");
        next(x, "voice c(t){u=a(t);b();yield u;}do a(v){return v;}do b(){}");
        int[][] due = {{1, 1, 2}, {0, 1, 1}, {0, 0, 0}};
        for (int i = 0; i < due.length; i++) {
            for (int what = 0; what < 3; what++) {
                Due.is("body " + i + ", " + what, x.body(i, what), due[i][what]);
            }
        }
        x.voice(0, 6);
        Due.is("resume", x.resume(1, 0), 0);
        Due.is("answer", x.answer(), 6);
        next(x, "do z(a){}");
        Due.is("one body", x.body(1, 0), StoryRound.BAD);
        Due.feed(x, "voice m(){b();}");
        Due.is("a body of an older story is none", x.compile(), -20);
    }

    private static void cellsAnew() {
        StoryRound x = Due.story("voice a(n){f(n,1);}do f(n,m){if(n){f(n-1,m+1);}try{yield 1;}finally{}}");
        x.voice(0, 40);
        x.voice(0, 3);
        x.resume(1, 0);
        x.resume(2, 0);
        next(x, "voice a(n){b=c;yield 1;c=1;}");
        for (int v = 1; v <= 3; v++) {
            x.voice(0, 70);
            Due.is("resume", x.resume(v, 0), 0);
            Due.is("calls", x.told(v, 4), 1);
            Due.is("argument", x.local(v, 0, 0), 70);
            Due.is("0 at first", x.local(v, 0, 1), 0);
            Due.is("0 at first", x.local(v, 0, 2), 0);
        }
    }
}
