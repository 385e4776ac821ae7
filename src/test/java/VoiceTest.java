/** Promises 6 to 13: voice, resume, inject, close, sweep, answer, told, local; and what voices do. */
public final class VoiceTest {
    private static final int BAD = StoryRound.BAD, STATE = StoryRound.STATE, FULL = StoryRound.FULL;
    private static final int NONE = StoryRound.NONE;

    public static void main(String[] args) {
        voice();
        voiceIsFull();
        resume();
        values();
        conditions();
        steps();
        calls();
        resumeByVoice();
        handByVoice();
        injectByVoice();
        closeByVoice();
        whileClosed();
        each();
        newByVoice();
        spent();
        inject();
        close();
        sweep();
        sweepReaches();
        sweepReachesBackwards();
        sweepOrder();
        sweepSpent();
        answer();
        told();
        local();
        localWithoutArgument();
        Due.end();
    }

    private static void voice() {
        StoryRound x = Due.story("do p(){}voice a(x){yield x;}voice b(){yield y;y=1;}");
        Due.is("a procedure is no script", x.voice(0, 1), BAD);
        Due.is("body -1", x.voice(-1, 1), BAD);
        Due.is("body 3", x.voice(3, 1), BAD);
        Due.is("nothing was made", x.count(1), 0);
        Due.is("the first", x.voice(1, 70), 1);
        Due.is("the second", x.voice(2, 80), 2);
        Due.is("its argument", x.local(1, 0, 0), 70);
        Due.is("without an argument", x.local(2, 0, 0), BAD);
        Due.is("resume 1", x.resume(1, 0), 0);
        Due.is("answer 1", x.answer(), 70);
        Due.is("resume 2", x.resume(2, 0), 0);
        Due.is("answer 2", x.answer(), 0);
    }

    private static void voiceIsFull() {
        StoryRound x = Due.story("voice a(){}");
        for (int i = 1; i <= 12; i++) {
            Due.is("voice", x.voice(0, 0), i);
        }
        Due.is("a 13th that is not over", x.voice(0, 0), FULL);
        Due.is("BAD is ahead of FULL", x.voice(1, 0), BAD);
        Due.is("one ends", x.resume(12, 0), 1);
        for (int i = 13; i <= 60; i++) {
            Due.is("voice", x.voice(0, 0), i);
            Due.is("close", x.close(i), 1);
        }
        Due.is("close one more", x.close(1), 1);
        Due.is("a 61st", x.voice(0, 0), FULL);
        Due.is("60 were made", x.count(1), 60);
        Due.is("10 are not over", x.count(2), 10);
    }

    private static void resume() {
        StoryRound x = Due.story("voice a(x){x=yield x+1;tell x;x=yield -x;return x*x;}voice b(){throw 4 5;}");
        x.voice(0, 3);
        Due.is("no voice 0", x.resume(0, 1), BAD);
        Due.is("no voice 2", x.resume(2, 1), BAD);
        Due.is("no voice -1", x.resume(-1, 1), BAD);
        Due.is("it begins", x.resume(1, 99), 0);
        Due.is("yield is of U", x.answer(), 3);
        Due.is("the yield gives", x.resume(1, 6), 0);
        Due.lines(x, "1:7");
        Due.is("yielded", x.answer(), -7);
        Due.is("it ends", x.resume(1, 9), 1);
        Due.is("given back", x.answer(), 81);
        Due.is("it is over", x.resume(1, 9), 3);
        Due.is("nothing is done", x.handings(), 6);
        x.voice(1, 0);
        Due.is("a failure", x.resume(2, 0), 2);
        Due.is("it failed", x.told(2, 0), 5);
        Due.is("it is over", x.resume(2, 0), 3);
        Due.is("the answer stays", x.answer(), 81);
    }

    private static void values() {
        expect("2147483647+1", Integer.MIN_VALUE);
        expect("-2147483647-2", Integer.MAX_VALUE);
        expect("65536*65536", 0);
        expect("123456789*1000", -1097262584);
        expect("-7/2", -3);
        expect("-7%2", -1);
        expect("7/-2", -3);
        expect("7%-2", 1);
        expect("(-2147483647-1)/-1", Integer.MIN_VALUE);
        expect("(-2147483647-1)%-1", 0);
        expect("-(-2147483647-1)", Integer.MIN_VALUE);
        expect("1<2", 1);
        expect("2<2", 0);
        expect("-1<0", 1);
        expect("2==2", 1);
        expect("2==3", 0);
        expect("!0", 1);
        expect("!5", 0);
        expect("!!5", 1);
        expect("-!0", -1);
        expect("10-3-2", 5);
        expect("2+3*4", 14);
        expect("100/10/5", 2);
        expect("100/10*5", 50);
        expect("1+1<3", 1);
        expect("007", 7);
        expect("me", 1);
        expect("state me", 2);
        expect("state 0", 9);
        expect("state 2", 9);
        expect("state -1", 9);
        expect("state new a()", 0);
        expect("new a()", 2);
        expect("-me+5", 4);
    }

    private static void expect(String value, int due) {
        // 2147483648 is no number of nine figures, so the text is written with what can be.
        String text = value.replace("2147483647", "(214748364*10+7)");
        StoryRound x = Due.story("voice a(){return " + text + ";}");
        x.voice(0, 0);
        Due.is(value, x.resume(1, 0), 1);
        Due.is(value, x.answer(), due);
    }

    private static void conditions() {
        StoryRound x = Due.story("voice a(x){if(x){tell 1;}else{tell 2;}if(x-1){tell 3;}while(x<3){tell x;x=x+1;}if(0){}else{tell 9;}}");
        x.voice(0, 1);
        Due.is("resume", x.resume(1, 0), 1);
        Due.is("behind the end: 0", x.answer(), 0);
        Due.lines(x, "1:1 1:1 1:2 1:9");
        x = Due.story("voice a(x){tell x/(x-x);}voice b(){tell 1%0;}");
        x.voice(0, 1);
        Due.is("by 0", x.resume(1, 0), 2);
        Due.failures(x, "0 0 11 0 1 11");
        x.voice(1, 1);
        Due.is("rest by 0", x.resume(2, 0), 2);
        Due.failures(x, "0 0 11 0 2 35");
    }

    private static void steps() {
        stepsOf("", 0);
        stepsOf("tell 1;", 1);
        stepsOf("0;0;x=1;", 3);
        stepsOf("if(1){tell 1;}", 2);
        stepsOf("if(0){tell 1;}else{}", 1);
        stepsOf("while(0){}", 1);
        stepsOf("x=0;while(x<3){x=x+1;}", 1 + 1 + 3 + 3);
        stepsOf("try{tell 1;}finally{tell 2;}", 3);
        stepsOf("try{throw 1 1;}catch e{tell 1;}finally{}", 3);
        stepsOf("p();", 2);
        stepsOf("p()+p();", 3);
        stepsOf("x=q(p());", 1 + 1 + 1 + 1);
        stepsOf("each x of new e(){}", 1 + 2);
        stepsOf("each x of new e(){tell x;}", 1 + 2 + 2);
        stepsOf("return;tell 1;", 1);
    }

    private static void stepsOf(String statements, int due) {
        StoryRound x = Due.story("voice m(){" + statements + "}do p(){}do q(a){return a;}voice e(){yield 1;yield 2;}");
        x.voice(0, 0);
        Due.is(statements, x.resume(1, 0), 1);
        Due.is("steps of '" + statements + "'", x.told(1, 2), due);
        int all = 0;
        for (int v = 1; v <= x.count(1); v++) {
            all += x.told(v, 2);
        }
        Due.is("all steps of '" + statements + "'", x.count(3), all);
    }

    private static void calls() {
        StoryRound x = Due.story("voice m(n){tell f(n);yield 0;tell g(1,2,3,4);}do f(n){if(n<2){return 1;}return n*f(n-1);}do g(a,b,c,d){yield a*1000+b*100+c*10+d;a=7;}");
        x.voice(0, 5);
        Due.is("resume", x.resume(1, 0), 0);
        Due.lines(x, "1:120");
        Due.is("a procedure yields", x.resume(1, 0), 0);
        Due.is("U of yield", x.answer(), 1);
        Due.is("two calls are open", x.told(1, 4), 2);
        Due.is("it ends", x.resume(1, 0), 1);
        Due.lines(x, "1:120 1:0");
        deep(59, 1);
        deep(60, 2);
    }

    /** The script and n calls of a procedure are open at once. */
    private static void deep(int n, int outcome) {
        StoryRound x = Due.story("voice m(n){tell f(n);}do f(n){if(n==1){return 5;}return f(n-1);}");
        x.voice(0, n);
        Due.is(n + " calls deep", x.resume(1, 0), outcome);
        Due.is("steps of them", x.told(1, 2), 1 + n + 2 * n - (outcome == 2 ? 2 : 0));
        if (outcome == 2) {
            Due.failures(x, "0 0 12 0 1 49");
        }
    }

    private static void resumeByVoice() {
        StoryRound x = Due.story("voice m(){a=new k(5);tell resume a with 70;tell state a;tell resume a with 80;tell state a;try{resume a with 1;}catch 10 e{tell 10;}"
                + "tell resume f(a) with f(99);}voice k(n){tell n;n=yield n+1;tell n;return 6;}do f(n){tell n;return n;}");
        x.voice(0, 0);
        Due.is("resume", x.resume(1, 0), 2);
        Due.lines(x, "2:5 1:5 1:1 2:81 1:6 1:4 1:10 1:2 1:99");
        Due.handings(x, "0>1 1>2 2>1 1>2 2>1 1>0");
        Due.is("its resumer", x.told(2, 5), 1);
        x = Due.story("voice m(){a=new k();resume a with 0;tell state me;try{inject 1 into a with 0;}catch e{tell state me;}tell state a;"
                + "a=new k();resume a with 0;close a;tell state me;}voice k(){tell state 1;try{yield 0;}catch e{throw 2 state me;}finally{tell state me;tell state 1;}}");
        x.voice(0, 0);
        Due.is("resume", x.resume(1, 0), 1);
        Due.lines(x, "2:3 1:2 2:2 2:3 1:2 1:5 3:3 3:2 3:3 1:2");
        misused("resume 0 with 0;");
        misused("resume 99 with 0;");
        misused("resume -1 with 0;");
        misused("hand 0 with 0;");
        misused("inject 1 into 0 with 0;");
        misused("close 0;");
        misused("close 2;");
        misused("each x of 0{}");
    }

    private static void misused(String statement) {
        StoryRound x = Due.story("voice m(){" + statement + "}");
        x.voice(0, 0);
        Due.is(statement, x.resume(1, 0), 2);
        Due.failures(x, "0 0 10 0 1 10");
        Due.is("no ring of no voice", x.ring(0), NONE);
    }

    private static void handByVoice() {
        StoryRound x = Due.story("voice m(){a=new b(0);tell resume a with 0;tell resume a with 7;}"
                + "voice b(o){o=new c(me);tell hand o with 5;return 3;}voice c(o){yield 20;tell hand o with 30;}");
        x.voice(0, 0);
        Due.is("resume", x.resume(1, 0), 1);
        Due.lines(x, "1:20 2:7 1:3");
        Due.handings(x, "0>1 1>2 2>3 3>1 1>2 2>1 1>0");
        Due.states(x, "441");
        Due.is("resumer of c: that of b", x.told(3, 5), 1);
        x = Due.story("voice p(n){tell n;tell hand n with 5;return 8;}voice q(n){n=yield n;tell n;hand n with 6;}");
        x.voice(0, 2);
        x.voice(1, 1);
        Due.is("handed on, and yielded", x.resume(1, 0), 0);
        Due.is("answer", x.answer(), 1);
        Due.states(x, "11");
        Due.is("the desk is its resumer", x.told(2, 5), 0);
        Due.is("handed back, and ended", x.resume(2, 1), 1);
        Due.is("answer", x.answer(), 8);
        Due.lines(x, "1:2 2:1 1:6");
        Due.states(x, "41");
        Due.handings(x, "0>1 1>2 2>0 0>2 2>1 1>0");
    }

    private static void injectByVoice() {
        String text = "voice m(){a=new b();resume a with 0;tell inject 13 into a with 8;tell state a;"
                + "try{inject 4 into a with 9;}catch 4 e{tell e;}tell state a;"
                + "a=new b();try{inject 25 into a with 6;}catch 5 e{tell e;}tell state a;inject 1 into a with 2;}"
                + "voice b(){try{yield 1;}catch 3 e{tell e;}yield 50;}";
        StoryRound x = Due.story(text);
        x.voice(0, 0);
        Due.is("resume", x.resume(1, 0), 2);
        Due.lines(x, "2:8 1:50 1:1 1:9 1:5 1:6 1:5");
        Due.handings(x, "0>1 1>2 2>1 1>2 2>1 1>2 2>1 1>0");
        Due.is("never resumed", x.told(3, 5), NONE);
        Due.failures(x, "0 0 10 0 1 " + text.indexOf("inject 1 into"));
    }

    private static void closeByVoice() {
        StoryRound x = Due.story("voice m(){a=new b(1);close a;tell state a;close a;a=new b(1);resume a with 0;close a;tell state a;"
                + "a=new b(2);resume a with 0;close a;tell state a;a=new b(3);resume a with 0;try{close a;}catch 7 e{tell e;}tell state a;}"
                + "voice b(n){try{yield n;tell 99;}catch e{tell 98;}finally{tell n;if(n==2){return 5;}if(n==3){throw 7 70;}}}");
        x.voice(0, 0);
        Due.is("resume", x.resume(1, 0), 1);
        Due.lines(x, "1:6 3:1 1:6 4:2 1:6 5:3 1:70 1:5");
        Due.states(x, "46665");
        Due.is("the closer is the resumer", x.told(3, 5), 1);
        Due.is("one that never began", x.told(2, 5), NONE);
        Due.is("a finally began", x.told(3, 3), 1);
        x = Due.story("voice m(a){resume a with 0;}voice b(c){close c;}");
        x.voice(0, 2);
        x.voice(1, 1);
        Due.is("close of one that waits", x.resume(1, 0), 2);
        Due.failures(x, "0 0 10 0 2 39");
        Due.is("ring", x.ring(0), 2);
        Due.is("ring", x.ring(1), 1);
        Due.is("ring", x.ring(2), NONE);
        x = Due.story("voice m(){close me;}");
        x.voice(0, 0);
        Due.is("close of itself", x.resume(1, 0), 2);
        Due.is("ring of itself", x.ring(0), 1);
        Due.is("ring of itself", x.ring(1), NONE);
    }

    private static void whileClosed() {
        StoryRound x = Due.story("voice m(){a=new b();resume a with 0;close a;tell state a;}"
                + "voice b(){try{yield 1;}finally{try{yield f(2);}catch 10 e{tell e;}try{hand new c() with f(3);}catch 10 e{tell 4;}tell resume new c() with 0;}tell 90;}"
                + "voice c(){yield 77;}do f(x){tell x;return x;}");
        x.voice(0, 0);
        Due.is("resume", x.resume(1, 0), 1);
        Due.lines(x, "2:2 2:0 2:3 2:4 2:77 1:6");
        Due.states(x, "4601");
        x = Due.story("voice b(){try{yield 1;}finally{yield 2;}}");
        x.voice(0, 0);
        x.resume(1, 0);
        Due.is("its misuse comes out", x.close(1), 2);
        Due.failures(x, "0 0 10 0 1 31, 1 2 14 0 0 -9");
        Due.is("it failed", x.told(1, 0), 5);
        x = Due.story("voice b(){p();tell 1;yield 2;}do p(){try{yield 1;}finally{return 5;}}");
        x.voice(0, 0);
        x.resume(1, 0);
        Due.is("14 is gone with the return", x.close(1), 2);
        Due.lines(x, "1:1");
        Due.failures(x, "0 0 10 0 1 21");
    }

    private static void each() {
        StoryRound x = Due.story("voice m(){each v of new g(3){tell v;}tell v;a=new g(2);each v of a{if(v==1){return 40;}}}"
                + "voice g(n){i=0;while(i<n){tell 10+yield i;i=i+1;}return 99;}");
        x.voice(0, 0);
        Due.is("resume", x.resume(1, 0), 1);
        Due.is("answer", x.answer(), 40);
        Due.lines(x, "1:0 2:10 1:1 2:10 1:2 2:10 1:2 3:10");
        Due.states(x, "441");
        x = Due.story("voice m(a){each v of a{}each v of a{}}voice g(){yield 1;}");
        x.voice(0, 2);
        x.voice(1, 0);
        Due.is("a second each of one that ended", x.resume(1, 0), 2);
        Due.failures(x, "0 0 10 0 1 24");
        x = Due.story("voice m(a){each v of a{tell v;}tell 5;}voice g(h){hand h with 0;yield 3;}voice h(){yield 1;yield 2;}");
        x.voice(0, 2);
        x.voice(1, 3);
        x.voice(2, 0);
        Due.is("one that hands on", x.resume(1, 0), 1);
        Due.lines(x, "1:1 1:3 1:5");
        String text = "voice m(a){each v of a{each w of a{tell w;}}}voice g(){yield 1;yield 2;throw 6 7;}";
        x = Due.story(text);
        x.voice(0, 2);
        x.voice(1, 0);
        Due.is("a failure in a round", x.resume(1, 0), 2);
        Due.lines(x, "1:2");
        Due.failures(x, "0 0 6 7 2 " + text.indexOf("throw"));
    }

    private static void newByVoice() {
        StoryRound x = Due.story("voice m(n){while(n){n=n-1;tell new k();}yield 5;}voice k(){}");
        x.voice(0, 11);
        Due.is("12 are not over", x.resume(1, 0), 0);
        Due.is("voices", x.count(1), 12);
        Due.is("made by", x.told(12, 6), 1);
        x.voice(0, 1);
        x.close(12);
        Due.is("voice", x.voice(0, 1), 13);
        Due.is("one too many", x.resume(13, 0), 2);
        Due.failures(x, "0 0 13 0 13 26");
        x = Due.story("voice m(n){while(n){n=n-1;close new k();}}voice k(){}");
        x.voice(0, 59);
        Due.is("60", x.resume(1, 0), 1);
        Due.is("voices", x.count(1), 60);
        x = Due.story("voice m(n){while(n){n=n-1;close new k();}}voice k(){}");
        x.voice(0, 60);
        Due.is("61", x.resume(1, 0), 2);
        Due.failures(x, "0 0 13 0 1 26");
    }

    private static void spent() {
        StoryRound x = Due.story("voice m(n){try{while(1){n=n+1;}}catch e{tell e;}finally{tell 1;}}voice k(a){resume a with 0;}voice l(){yield 6;}");
        x.voice(0, 0);
        x.voice(1, 1);
        x.voice(2, 0);
        x.voice(2, 0);
        x.resume(4, 0);
        Due.is("spent", x.resume(2, 0), 4);
        Due.is("steps", x.count(3), 6000);
        Due.is("steps of each", x.told(1, 2) + x.told(2, 2) + x.told(4, 2), 6000);
        Due.is("spent", x.count(4), 1);
        Due.states(x, "5555");
        Due.is("nothing is alive", x.count(2), 0);
        Due.lines(x, "");
        Due.is("no finally", x.told(1, 3), 0);
        Due.is("no call is open", x.told(1, 4), 0);
        Due.handings(x, "0>4 4>0 0>2 2>1 1>0");
        Due.is("answer stays", x.answer(), 6);
        Due.is("no failure came", x.failures(), 0);
        Due.is("voice", x.voice(0, 0), STATE);
        Due.is("resume", x.resume(9, 0), STATE);
        Due.is("inject", x.inject(9, 0, 0), STATE);
        Due.is("close", x.close(9), STATE);
        Due.is("sweep", x.sweep(), STATE);
        Due.is("told still answers", x.told(1, 6), 0);
        Due.is("body still answers", x.body(0, 0), 1);
        x = Due.story("voice m(n){while(n){n=n-1;}}");
        x.voice(0, 2999);
        Due.is("1 + 2999 twice", x.resume(1, 0), 1);
        Due.is("steps", x.count(3), 5999);
        Due.is("not spent", x.count(4), 0);
        x.voice(0, 0);
        Due.is("6000", x.resume(2, 0), 1);
        Due.is("not spent", x.count(4), 0);
        x.voice(0, 0);
        Due.is("6001", x.resume(3, 0), 4);
        Due.is("spent", x.count(4), 1);
    }

    private static void inject() {
        StoryRound x = Due.story("voice m(){try{yield 1;}catch 3 e{tell e;yield 2;}yield 3;}");
        x.voice(0, 0);
        Due.is("kind -1", x.inject(1, -1, 0), BAD);
        Due.is("kind 10", x.inject(1, 10, 0), BAD);
        Due.is("no voice", x.inject(2, 1, 0), BAD);
        Due.is("voice 0", x.inject(0, 1, 0), BAD);
        Due.is("not begun: it fails", x.inject(1, 3, 44), 2);
        Due.failures(x, "0 0 3 44 0 -9");
        Due.is("no turn", x.handings(), 0);
        Due.is("never resumed", x.told(1, 5), NONE);
        Due.states(x, "5");
        Due.is("over", x.inject(1, 3, 4), 3);
        Due.is("over, but BAD is ahead", x.inject(1, 10, 4), BAD);
        x.voice(0, 0);
        x.resume(2, 0);
        Due.is("caught, yielded", x.inject(2, 3, 45), 0);
        Due.is("answer", x.answer(), 2);
        Due.lines(x, "2:45");
        Due.is("not caught", x.inject(2, 3, 46), 2);
        Due.failures(x, "0 0 3 46 0 -9");
        for (int kind = 0; kind <= 9; kind++) {
            x = Due.story("voice m(){try{yield 1;}catch " + kind + " e{return e+1;}}");
            x.voice(0, 0);
            x.resume(1, 0);
            Due.is("ended", x.inject(1, kind, 9), 1);
            Due.is("answer", x.answer(), 10);
        }
        x = Due.story("voice m(){try{yield 1;}catch e{while(1){}}}");
        x.voice(0, 0);
        x.resume(1, 0);
        Due.is("spent", x.inject(1, 0, 9), 4);
    }

    private static void close() {
        StoryRound x = Due.story("voice m(n){try{yield n;}finally{tell n;if(n==2){return 77;}if(n==3){throw 5 6;}if(n==4){while(1){}}}}");
        for (int n = 1; n <= 4; n++) {
            x.voice(0, n);
            x.resume(n, 0);
        }
        x.voice(0, 0);
        Due.is("no voice", x.close(6), BAD);
        Due.is("no voice", x.close(0), BAD);
        Due.is("not begun", x.close(5), 1);
        Due.is("closed before", x.close(5), 0);
        Due.is("14 leaves it", x.close(1), 1);
        Due.is("it ends by itself", x.close(2), 1);
        Due.is("what it gave back is no answer", x.answer(), 4);
        Due.is("no failure so far", x.failures(), 0);
        Due.is("a failure", x.close(3), 2);
        Due.failures(x, "0 0 5 6 3 68, 1 2 14 0 0 -9");
        Due.states(x, "66516");
        Due.is("spent", x.close(4), 4);
        Due.lines(x, "1:1 2:2 3:3 4:4");
        Due.handings(x, "0>1 1>0 0>2 2>0 0>3 3>0 0>4 4>0 0>1 1>0 0>2 2>0 0>3 3>0 0>4 4>0");
    }

    private static void sweep() {
        String text = "voice m(){a=new k(0);a=new k(0);resume a with 0;a=0;new k(0);b=new k(0);yield 1;}"
                + "voice k(n){try{yield 1;}finally{tell me;throw 2 n;}}";
        StoryRound x = Due.story(text);
        Due.is("no voices", x.sweep(), 0);
        x.voice(0, 0);
        Due.is("one that the desk made", x.sweep(), 0);
        x.resume(1, 0);
        Due.is("sweep", x.sweep(), 3);
        Due.states(x, "16560");
        Due.lines(x, "3:3");
        Due.failures(x, "0 0 2 0 3 " + text.indexOf("throw") + ", 1 2 14 0 0 -9");
        Due.is("sweep again", x.sweep(), 0);
        Due.is("the desk resumes it to its end", x.resume(1, 0), 1);
        Due.is("nobody holds it now", x.sweep(), 1);
        Due.states(x, "46566");
    }

    private static void sweepReaches() {
        // 1 holds 2, which holds 4 in its outer call; 4 is not begun and has 3 as its argument; 5 is lost.
        StoryRound x = Due.story("voice m(){a=new p();resume a with 0;yield new q(0)*0;}voice p(){c=new q(new q(0));f();}do f(){yield 0;}voice q(n){yield n;}");
        x.voice(0, 0);
        x.resume(1, 0);
        Due.is("voices", x.count(1), 5);
        Due.is("sweep", x.sweep(), 1);
        Due.states(x, "11006");
        Due.is("the argument of 4", x.local(4, 0, 0), 3);
        x.close(2);
        Due.is("one that is over reaches nobody", x.sweep(), 2);
        Due.states(x, "16666");
        // Numbers that merely equal a voice's reach it, too; an argument of one without is 0.
        x = Due.story("voice m(n){new k();n=2;yield 0;}voice k(){}");
        x.voice(0, 0);
        x.resume(1, 0);
        Due.is("reached by a number", x.sweep(), 0);
    }

    private static void sweepReachesBackwards() {
        // 1 holds 6, 6 has 5 as its argument, and so on down to 2, which has 7.
        StoryRound x = Due.story("voice m(a){a=new k(7);while(a<6){a=new k(a);}new k(0);new k(0);yield 0;}voice k(n){}");
        x.voice(0, 0);
        x.resume(1, 0);
        Due.is("voices", x.count(1), 8);
        Due.is("7 is reached, 8 is not", x.sweep(), 1);
        Due.states(x, "10000006");
    }

    private static void sweepOrder() {
        // 2, 3 and 4 are lost; the closing of 2 closes 4 ahead of its turn, and makes 5, which is not found.
        StoryRound x = Due.story("voice m(){resume new k(4) with 0;resume new k(0) with 0;resume new k(0) with 0;yield 9;}voice k(n){try{yield 1;}finally{tell me;if(n){close n;new k(0);}}}");
        x.voice(0, 0);
        Due.is("resume", x.resume(1, 0), 0);
        Due.is("4 is over by then", x.sweep(), 2);
        Due.lines(x, "2:2 4:4 3:3");
        Due.states(x, "16660");
        Due.is("answer stays", x.answer(), 9);
        Due.is("5 is found now", x.sweep(), 1);
    }

    private static void sweepSpent() {
        StoryRound x = Due.story("voice m(){resume new k(0) with 0;resume new k(1) with 0;resume new k(0) with 0;yield 9;}voice k(n){try{yield 1;}finally{while(n){}}}");
        x.voice(0, 0);
        x.resume(1, 0);
        Due.is("that one counts", x.sweep(), 2);
        Due.states(x, "5655");
        Due.is("spent", x.count(4), 1);
        Due.is("and then", x.sweep(), STATE);
    }

    private static void answer() {
        StoryRound x = Due.story("voice m(n){yield n;throw 1 n;}");
        Due.is("before", x.answer(), 0);
        x.voice(0, 8);
        Due.is("before", x.answer(), 0);
        x.resume(1, 0);
        Due.is("yielded", x.answer(), 8);
        x.resume(1, 0);
        Due.is("a failure is none", x.answer(), 8);
    }

    private static void told() {
        StoryRound x = Due.story("do z(){yield state 1*10+state 2;}voice m(){a=new k();tell state me;tell resume a with 0;}voice k(){try{z();}finally{tell state 1;}}");
        x.voice(1, 0);
        int[] unbegun = {0, 1, 0, 0, 0, NONE, 0};
        for (int what = 0; what <= 6; what++) {
            Due.is("told, not begun: " + what, x.told(1, what), unbegun[what]);
        }
        Due.is("what -1", x.told(1, -1), BAD);
        Due.is("what 7", x.told(1, 7), BAD);
        Due.is("voice 0", x.told(0, 0), BAD);
        Due.is("voice 2", x.told(2, 0), BAD);
        x.resume(1, 0);
        Due.lines(x, "1:2 1:3");
        int[] over = {4, 1, 3, 0, 0, 0, 0};
        int[] open = {1, 2, 4, 0, 2, 1, 1};
        for (int what = 0; what <= 6; what++) {
            Due.is("told, over: " + what, x.told(1, what), over[what]);
            Due.is("told, open: " + what, x.told(2, what), open[what]);
        }
        x.resume(2, 0);
        int[] ended = {4, 2, 5, 1, 0, 0, 1};
        for (int what = 0; what <= 6; what++) {
            Due.is("told, ended: " + what, x.told(2, what), ended[what]);
        }
    }

    private static void local() {
        StoryRound x = Due.story("voice m(a){b=a+1;f(b,5);}do f(p,q){r=9;if(q){f(p+1,q-5);}yield 0;}");
        x.voice(0, 3);
        Due.is("its argument", x.local(1, 0, 0), 3);
        Due.is("not begun, i 1", x.local(1, 0, 1), BAD);
        Due.is("not begun, call 1", x.local(1, 1, 0), BAD);
        x.resume(1, 0);
        int[][] due = {{5, 0, 9}, {4, 5, 9}, {3, 4}};
        for (int call = 0; call < 3; call++) {
            for (int i = 0; i < due[call].length; i++) {
                Due.is("call " + call + ", " + i, x.local(1, call, i), due[call][i]);
            }
            Due.is("one too many of " + call, x.local(1, call, due[call].length), BAD);
            Due.is("-1 of " + call, x.local(1, call, -1), BAD);
        }
        Due.is("call 3", x.local(1, 3, 0), BAD);
        Due.is("call -1", x.local(1, -1, 0), BAD);
        Due.is("no voice", x.local(2, 0, 0), BAD);
        x.close(1);
        Due.is("over", x.local(1, 0, 0), BAD);
    }

    private static void localWithoutArgument() {
        StoryRound x = Due.story("voice a(){b=new c();new d(7);yield 5;}voice c(){e=6;yield 1;}voice d(f){}");
        x.voice(0, 9);
        Due.is("made by the desk, not begun", x.local(1, 0, 0), BAD);
        Due.is("its i 1", x.local(1, 0, 1), BAD);
        Due.is("its call 1", x.local(1, 1, 0), BAD);
        x.resume(1, 0);
        Due.is("begun: its variable", x.local(1, 0, 0), 2);
        Due.is("made by a voice, not begun", x.local(2, 0, 0), BAD);
        Due.is("made by a voice, with an argument", x.local(3, 0, 0), 7);
        x.voice(2, 0);
        Due.is("an argument 0 is one", x.local(4, 0, 0), 0);
        x.resume(2, 0);
        Due.is("begun without an argument", x.local(2, 0, 0), 6);
        x.voice(1, 0);
        x.close(5);
        Due.is("closed before it began", x.local(5, 0, 0), BAD);
    }
}
