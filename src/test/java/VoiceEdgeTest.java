/** The edges of promises 6 to 13 and of VOICES: the last that is taken, and the first that is refused. */
public final class VoiceEdgeTest {
    private static final int BAD = StoryRound.BAD, STATE = StoryRound.STATE, FULL = StoryRound.FULL;
    private static final int NONE = StoryRound.NONE;
    private static final int LEAST = Integer.MIN_VALUE, GREATEST = Integer.MAX_VALUE;

    public static void main(String[] args) {
        voiceRefuses();
        twelveThatAreNotOver();
        sixtyInAStory();
        newIsFull();
        argumentIsNotLookedAt();
        whatIsOverStaysSo();
        noSuchVoice();
        injectKinds();
        numbersModuloTen();
        misuseOfThoseOver();
        misuseOfNoVoice();
        misuseOfThoseThatRun();
        closeInEveryState();
        statesAsSeen();
        lastStatement();
        lastTest();
        lastRound();
        lastCall();
        spentRefuses();
        spentFailsAll();
        spentKeepsWhatCame();
        sixtyCalls();
        sixtyCallsOfEachVoice();
        valuesAheadOfDeep();
        comparesAtTheEnds();
        wrapsAround();
        firstIsFirst();
        conditionIsNotZero();
        eachWithoutRounds();
        eachInEach();
        eachIsWorkedOutOnce();
        eachEndsWithAnother();
        handWhileClosedKeepsTheRing();
        closedThatGoesOn();
        sweepWithoutArgument();
        sweepByWildNumbers();
        sweepOfEleven();
        sweepTellsTheLatest();
        answersOnlyOfOneAndNought();
        toldEdges();
        localEdges();
        Due.end();
    }

    private static void voiceRefuses() {
        StoryRound x = Due.story("voice a(){}do p(){}voice b(c){}");
        int[] wild = {1, 3, -1, 12, LEAST, GREATEST};
        for (int script : wild) {
            Due.is("voice of " + script, x.voice(script, 0), BAD);
        }
        Due.is("none was made", x.count(1), 0);
        Due.is("of the first", x.voice(0, LEAST), 1);
        Due.is("of the last", x.voice(2, LEAST), 2);
        Due.is("its argument", x.local(2, 0, 0), LEAST);
    }

    private static void twelveThatAreNotOver() {
        StoryRound x = Due.story("voice a(n){yield n;}");
        for (int i = 1; i <= 11; i++) {
            x.voice(0, i);
        }
        Due.is("the 12th", x.voice(0, 12), 12);
        Due.is("the 13th", x.voice(0, 13), FULL);
        Due.is("FULL changes nothing", x.count(1), 12);
        x.resume(3, 0);
        Due.is("one at a yield is not over", x.voice(0, 0), FULL);
        x.resume(3, 0);
        Due.is("one has ended", x.voice(0, 0), 13);
        Due.is("full again", x.voice(0, 0), FULL);
        x.inject(4, 1, 1);
        Due.is("one has failed", x.voice(0, 0), 14);
        Due.is("full again", x.voice(0, 0), FULL);
        x.close(5);
        Due.is("one is closed", x.voice(0, 0), 15);
        Due.is("full again", x.voice(0, 0), FULL);
        Due.is("not over", x.count(2), 12);
    }

    private static void sixtyInAStory() {
        StoryRound x = Due.story("voice a(){}voice b(){try{new a();}catch 13 e{return 5;}}");
        for (int i = 1; i <= 59; i++) {
            Due.is("voice " + i, x.voice(0, 0), i);
            Due.is("it ends", x.resume(i, 0), 1);
        }
        Due.is("the 60th", x.voice(1, 0), 60);
        Due.is("told of it", x.told(60, 1), 1);
        Due.is("the 61st", x.voice(0, 0), FULL);
        Due.is("BAD is ahead of FULL", x.voice(2, 0), BAD);
        Due.is("60, though one alone is not over", x.count(2), 1);
        Due.is("many", x.resume(60, 0), 1);
        Due.is("caught", x.answer(), 5);
        Due.is("60 were made", x.count(1), 60);
        Due.is("no 61st", x.told(61, 0), BAD);
        Due.is("no 61st", x.resume(61, 0), BAD);
    }

    private static void newIsFull() {
        String text = "voice m(n){while(n){n=n-1;new k(0);}try{new k(f(7));}catch e{tell e;}yield 1;new k(0);}voice k(a){}do f(x){tell x;return x;}";
        StoryRound x = Due.story(text);
        x.voice(0, 11);
        Due.is("11 more are too many by one", x.resume(1, 0), 0);
        Due.lines(x, "1:7 1:0");
        Due.is("12 were made", x.count(1), 12);
        x.close(12);
        Due.is("one is over: it may be", x.resume(1, 0), 1);
        Due.is("the 13th", x.told(13, 6), 1);
        x = Due.story(text);
        x.voice(0, 10);
        Due.is("10 more and one", x.resume(1, 0), 0);
        Due.lines(x, "1:7");
        Due.is("the last is one too many", x.resume(1, 0), 2);
        Due.failures(x, "0 0 13 0 1 " + text.indexOf("new k(0);}voice"));
    }

    private static void argumentIsNotLookedAt() {
        StoryRound x = Due.story("voice a(){b=b;yield b;}voice c(d){yield d;}");
        x.voice(0, 77);
        x.resume(1, 88);
        Due.is("without an argument", x.answer(), 0);
        x.voice(1, 66);
        x.resume(2, 55);
        Due.is("the first value is not looked at", x.answer(), 66);
    }

    /** Voices 1 to 3: ended, failed, closed; 4 is at a yield. */
    private static StoryRound withThreeOver(String more) {
        StoryRound x = Due.story("voice a(n){yield n;return 10;}" + more);
        for (int i = 1; i <= 4; i++) {
            x.voice(0, i);
            x.resume(i, 0);
        }
        x.resume(1, 0);
        x.inject(2, 3, 4);
        x.close(3);
        Due.states(x, "4561");
        return x;
    }

    private static void whatIsOverStaysSo() {
        StoryRound x = withThreeOver("");
        long before = x.digest();
        for (int v = 1; v <= 3; v++) {
            Due.is("resume of one that is over", x.resume(v, 1), 3);
            Due.is("inject into one that is over", x.inject(v, 1, 1), 3);
            Due.is("a kind that is none is ahead", x.inject(v, 10, 1), BAD);
            Due.is("close of one that is over", x.close(v), 0);
        }
        Due.is("nothing is done", x.digest(), before);
        Due.is("the failure stays", x.failure(0, 1), 4);
        Due.is("the answer stays", x.answer(), 10);
    }

    private static void noSuchVoice() {
        StoryRound x = withThreeOver("");
        int[] wild = {0, -1, 5, 60, 61, LEAST, GREATEST};
        long before = x.digest();
        for (int v : wild) {
            Due.is("resume of " + v, x.resume(v, 0), BAD);
            Due.is("inject into " + v, x.inject(v, 0, 0), BAD);
            Due.is("close of " + v, x.close(v), BAD);
            Due.is("told of " + v, x.told(v, 0), BAD);
            Due.is("local of " + v, x.local(v, 0, 0), BAD);
        }
        Due.is("nothing is done", x.digest(), before);
    }

    private static void injectKinds() {
        StoryRound x = withThreeOver("");
        int[] wrong = {-1, 10, 14, LEAST, GREATEST};
        long before = x.digest();
        for (int kind : wrong) {
            Due.is("kind " + kind, x.inject(4, kind, 0), BAD);
        }
        Due.is("nothing is done", x.digest(), before);
        for (int kind = 0; kind <= 9; kind++) {
            x = Due.story("voice a(){yield 1;}");
            x.voice(0, 0);
            Due.is("kind " + kind, x.inject(1, kind, LEAST), 2);
            Due.failures(x, "0 0 " + kind + " -2147483648 0 -9");
            Due.is("no handing", x.handings(), 0);
            x.voice(0, 0);
            x.resume(2, 0);
            Due.is("kind " + kind, x.inject(2, kind, GREATEST), 2);
            Due.failures(x, "0 0 " + kind + " 2147483647 0 -9");
            Due.handings(x, "0>2 2>0 0>2 2>0");
        }
    }

    private static void numbersModuloTen() {
        int[][] due = {{0, 0}, {9, 9}, {10, 0}, {11, 1}, {14, 4}, {99, 9}, {999999999, 9}, {999999990, 0}};
        for (int[] pair : due) {
            StoryRound x = Due.story("voice m(){throw " + pair[0] + " 5;}");
            x.voice(0, 0);
            x.resume(1, 0);
            Due.failures(x, "0 0 " + pair[1] + " 5 1 10");
            x = Due.story("voice m(){inject " + pair[0] + " into new m() with 6;}");
            x.voice(0, 0);
            x.resume(1, 0);
            Due.failures(x, "0 0 " + pair[1] + " 6 1 10");
        }
    }

    private static String[] acts(String at) {
        return new String[] {"resume " + at + " with 0", "inject 1 into " + at + " with 0", "hand " + at + " with 0", "each x of " + at};
    }

    private static void misuseOfThoseOver() {
        for (int v = 1; v <= 3; v++) {
            for (String act : acts("" + v)) {
                StoryRound x = withThreeOver("voice m(){" + act + (act.startsWith("each") ? "{}" : ";") + "}");
                x.voice(1, 0);
                Due.is(act, x.resume(5, 0), 2);
                Due.is(act, x.failure(0, 0), 10);
                Due.is("no ring of one that is over", x.ring(0), NONE);
                Due.handings(x, "0>1 1>0 0>2 2>0 0>3 3>0 0>4 4>0 0>1 1>0 0>2 2>0 0>3 3>0 0>5 5>0");
            }
            StoryRound x = withThreeOver("voice m(){close " + v + ";tell 1;}");
            x.voice(1, 0);
            Due.is("close of one that is over is nothing", x.resume(5, 0), 1);
            Due.lines(x, "5:1");
            Due.states(x, "45614");
        }
    }

    private static void misuseOfNoVoice() {
        String[] none = {"0", "6", "61", "(-1)", "999999999", "(-1-999999999)"};
        for (String at : none) {
            for (String act : acts(at)) {
                noVoice(act + (act.startsWith("each") ? "{}" : ";"));
            }
            noVoice("close " + at + ";");
            StoryRound x = Due.story("voice m(){tell state " + at + ";}");
            x.voice(0, 0);
            x.resume(1, 0);
            Due.lines(x, "1:9");
        }
    }

    private static void noVoice(String statement) {
        StoryRound x = withThreeOver("voice m(){0;" + statement + "}");
        x.voice(1, 0);
        Due.is(statement, x.resume(5, 0), 2);
        Due.failures(x, "0 0 10 0 5 " + (30 + 12));
        Due.is("no ring of no voice", x.ring(0), NONE);
    }

    private static void misuseOfThoseThatRun() {
        // 1 waits for 2, which is under way: it misuses 1, then itself.
        for (int v = 1; v <= 2; v++) {
            for (String act : acts("" + v)) {
                runs(act + (act.startsWith("each") ? "{}" : ";"), v);
            }
            runs("close " + v + ";", v);
        }
    }

    private static void runs(String statement, int v) {
        StoryRound x = Due.story("voice m(){resume 2 with 0;}voice k(){" + statement + "}");
        x.voice(0, 0);
        x.voice(1, 0);
        Due.is(statement, x.resume(1, 0), 2);
        Due.failures(x, "0 0 10 0 2 37");
        Due.is(statement, x.ring(0), 2);
        Due.is(statement, x.ring(1), v == 1 ? 1 : NONE);
        Due.is(statement, x.ring(2), NONE);
    }

    private static void closeInEveryState() {
        StoryRound x = Due.story("voice m(){a=new k();tell state a;close a;tell state a;a=new k();resume a with 0;tell state a;close a;tell state a;close a;tell state a;"
                + "a=new k();resume a with 0;resume a with 0;tell state a;close a;tell state a;"
                + "a=new k();try{inject 1 into a with 1;}catch 1 e{}tell state a;close a;tell state a;}voice k(){yield 1;}");
        x.voice(0, 0);
        Due.is("resume", x.resume(1, 0), 1);
        Due.lines(x, "1:0 1:6 1:1 1:6 1:6 1:4 1:4 1:5 1:5");
        Due.handings(x, "0>1 1>3 3>1 1>3 3>1 1>4 4>1 1>4 4>1 1>0");
    }

    private static void statesAsSeen() {
        StoryRound x = withThreeOver("voice m(){new m();tell state 1;tell state 2;tell state 3;tell state 4;tell state me;tell state 6;tell state 7;}");
        x.voice(1, 0);
        x.resume(5, 0);
        Due.lines(x, "5:4 5:5 5:6 5:1 5:2 5:0 5:9");
    }

    /** 1 + 2 n steps, and then what follows. */
    private static StoryRound stepped(int n, String then, String more) {
        StoryRound x = Due.story("voice m(n){while(n){n=n-1;}" + then + "}" + more);
        x.voice(0, n);
        return x;
    }

    private static void lastStatement() {
        StoryRound x = stepped(2999, "tell 1;", "");
        Due.is("the 6000th step", x.resume(1, 0), 1);
        Due.lines(x, "1:1");
        Due.is("steps", x.count(3), 6000);
        Due.is("not spent", x.count(4), 0);
        x = stepped(2999, "tell 1;tell 2;", "");
        Due.is("the 6001st step", x.resume(1, 0), 4);
        Due.lines(x, "1:1");
        Due.is("steps", x.count(3), 6000);
        Due.is("steps of it", x.told(1, 2), 6000);
        Due.is("spent", x.count(4), 1);
        Due.states(x, "5");
        Due.handings(x, "0>1 1>0");
    }

    private static void lastTest() {
        StoryRound x = stepped(2999, "", "");
        Due.is("the 5999th step is a test", x.resume(1, 0), 1);
        Due.is("steps", x.count(3), 5999);
        x = stepped(3000, "", "");
        Due.is("the 6001st step would be the last test", x.resume(1, 0), 4);
        Due.is("steps", x.count(3), 6000);
    }

    private static void lastRound() {
        StoryRound x = Due.story("voice m(){each v of new g(){}}voice g(){while(1){yield 0;}}");
        x.voice(0, 0);
        Due.is("spent by a round", x.resume(1, 0), 4);
        Due.is("2000 rounds of three steps", x.handings(), 1 + 4000 + 1);
        Due.is("2000 of 1", x.told(1, 2), 2000);
        Due.is("4000 of 2", x.told(2, 2), 4000);
        x = Due.story("voice m(){0;each v of new g(){}}voice g(){while(1){yield 0;}}");
        x.voice(0, 0);
        Due.is("spent in a round", x.resume(1, 0), 4);
        Due.is("2 goes to the desk", x.handings(), 1 + 2 * 1999 + 1 + 1);
        Due.is("2001 of 1", x.told(1, 2), 2001);
        Due.is("3999 of 2", x.told(2, 2), 3999);
    }

    private static void lastCall() {
        String procedures = "do f(){}do g(a){tell a;}";
        StoryRound x = stepped(2998, "f();tell 1;", procedures);
        Due.is("5997 + 2 + 1", x.resume(1, 0), 1);
        Due.is("steps", x.count(3), 6000);
        x = stepped(2999, "f();", procedures);
        Due.is("a call is the 6001st", x.resume(1, 0), 4);
        Due.is("steps", x.count(3), 6000);
        x = stepped(2999, "g(yield 7);", procedures);
        Due.is("its values are worked out ahead", x.resume(1, 0), 0);
        Due.is("answer", x.answer(), 7);
        Due.is("6000 were taken", x.count(3), 6000);
        Due.is("not spent so far", x.count(4), 0);
        Due.is("the call is the 6001st", x.resume(1, 0), 4);
        Due.lines(x, "");
        Due.is("answer stays", x.answer(), 7);
    }

    private static StoryRound spentOne() {
        StoryRound x = Due.story("voice m(n){yield 4;resume me with 0;}voice w(){while(1){}}voice k(){resume 1 with 0;}");
        x.voice(0, 0);
        x.resume(1, 0);
        x.resume(1, 0);
        x.voice(0, 0);
        x.resume(2, 0);
        x.voice(1, 0);
        x.voice(2, 0);
        x.voice(0, 0);
        x.close(5);
        Due.is("spent", x.resume(3, 0), 4);
        return x;
    }

    private static void spentRefuses() {
        StoryRound x = spentOne();
        long before = x.digest();
        int[] wild = {0, 1, 2, 6, -1, LEAST, GREATEST};
        for (int n : wild) {
            Due.is("voice", x.voice(n, n), STATE);
            Due.is("resume", x.resume(n, n), STATE);
            Due.is("inject", x.inject(n, n, n), STATE);
            Due.is("close", x.close(n), STATE);
            Due.is("sweep", x.sweep(), STATE);
        }
        Due.is("nothing is changed", x.digest(), before);
        Due.is("and digest is told", x.digest() == 0 ? 1 : 0, 0);
        Due.feed(x, "voice a(){}");
        Due.is("a new story", x.compile(), 1);
        Due.is("not spent", x.count(4), 0);
        Due.is("its voice", x.voice(0, 0), 1);
    }

    private static void spentFailsAll() {
        StoryRound x = spentOne();
        Due.states(x, "55556");
        Due.is("none is not over", x.count(2), 0);
        for (int v = 1; v <= 5; v++) {
            Due.is("no call is open", x.told(v, 4), 0);
            Due.is("no variable", x.local(v, 0, 0), BAD);
        }
        Due.is("one that never began", x.told(4, 5), NONE);
        Due.handings(x, "0>1 1>0 0>1 1>0 0>2 2>0 0>3 3>0");
    }

    private static void spentKeepsWhatCame() {
        StoryRound x = spentOne();
        Due.is("answer", x.answer(), 4);
        Due.is("failures", x.failures(), 1);
        Due.is("failure", x.failure(0, 0), 10);
        Due.is("ring", x.ring(0), 1);
        Due.is("body", x.body(0, 1), 1);
        Due.is("lines", x.lines(), 0);
        Due.is("spent", x.count(4), 1);
        Due.is("bodies", x.count(0), 3);
    }

    private static void sixtyCalls() {
        String text = "voice m(n){try{tell f(n);}catch 12 e{tell -5;}}do f(n){if(n==1){yield 3;return 5;}return f(n-1);}";
        StoryRound x = Due.story(text);
        x.voice(0, 59);
        Due.is("the 60th is open", x.resume(1, 0), 0);
        Due.is("calls", x.told(1, 4), 60);
        Due.is("the innermost", x.local(1, 0, 0), 1);
        Due.is("the one ahead of the last", x.local(1, 58, 0), 59);
        Due.is("the last", x.local(1, 59, 0), 59);
        Due.is("one behind it", x.local(1, 60, 0), BAD);
        Due.is("it ends", x.resume(1, 0), 1);
        Due.lines(x, "1:5");
        x.voice(0, 60);
        Due.is("the 61st fails", x.resume(2, 0), 1);
        Due.lines(x, "1:5 2:-5");
        Due.is("behind its step", x.told(2, 2), 2 + 60 + 59 * 2 + 1);
    }

    private static void sixtyCallsOfEachVoice() {
        StoryRound x = Due.story("voice m(n){f(n);}do f(n){if(n==1){yield 3;resume 2 with 0;tell 8;}else{f(n-1);}}");
        x.voice(0, 59);
        x.voice(0, 59);
        Due.is("60 calls", x.resume(1, 0), 0);
        Due.is("1 goes on, and 2 begins", x.resume(1, 0), 1);
        Due.is("60 more", x.told(2, 4), 60);
        Due.lines(x, "1:8");
    }

    private static void valuesAheadOfDeep() {
        String text = "voice m(n){f(n,0);}do f(n,z){if(n==1){f(yield 9,1/0);}f(n-1,0);}";
        StoryRound x = Due.story(text);
        x.voice(0, 59);
        Due.is("the first value of the 61st call", x.resume(1, 0), 0);
        Due.is("answer", x.answer(), 9);
        Due.is("the second fails ahead of the call", x.resume(1, 0), 2);
        Due.failures(x, "0 0 11 0 1 " + text.indexOf("f(yield"));
    }

    private static void expect(String value, int due) {
        String text = value.replace("GREATEST", "(214748364*10+7)").replace("LEAST", "(-214748364*10-8)");
        StoryRound x = Due.story("voice a(){return " + text + ";}");
        x.voice(0, 0);
        Due.is(value, x.resume(1, 0), 1);
        Due.is(value, x.answer(), due);
    }

    private static void comparesAtTheEnds() {
        expect("LEAST<GREATEST", 1);
        expect("GREATEST<LEAST", 0);
        expect("LEAST<LEAST", 0);
        expect("LEAST==LEAST", 1);
        expect("LEAST==GREATEST", 0);
        expect("GREATEST==GREATEST", 1);
        expect("-1<LEAST", 0);
        expect("!LEAST", 0);
        expect("!(1-1)", 1);
        expect("!-0", 1);
        expect("0<0", 0);
        expect("0==-0", 1);
    }

    private static void wrapsAround() {
        expect("GREATEST", GREATEST);
        expect("LEAST", LEAST);
        expect("GREATEST+1", LEAST);
        expect("LEAST-1", GREATEST);
        expect("-LEAST", LEAST);
        expect("-GREATEST", LEAST + 1);
        expect("0-LEAST", LEAST);
        expect("LEAST*-1", LEAST);
        expect("LEAST/-1", LEAST);
        expect("LEAST%-1", 0);
        expect("LEAST/1", LEAST);
        expect("LEAST/LEAST", 1);
        expect("LEAST%10", -8);
        expect("GREATEST*GREATEST", 1);
        expect("GREATEST*2", -2);
        expect("GREATEST/-1", LEAST + 1);
        expect("0/5", 0);
        expect("5/9", 0);
        expect("-5/9", 0);
        expect("-5%9", -5);
        expect("999999999+999999999+999999999", -1294967299);
    }

    private static void firstIsFirst() {
        String[] signs = {"+", "-", "*", "/", "%", "<", "=="};
        for (String sign : signs) {
            told("f(1)" + sign + "f(2)", "1:1 1:2");
        }
        told("g(f(1),f(2),f(3),f(4))", "1:1 1:2 1:3 1:4");
        told("resume f(7) with f(8)", "1:7 1:8");
        told("hand f(7) with f(8)", "1:7 1:8");
        told("inject 1 into f(7) with f(8)", "1:7 1:8");
        told("x-h()", "1:0");
    }

    private static void told(String value, String lines) {
        StoryRound x = Due.story("voice m(){x=0;" + value + ";}do f(a){tell a;return a;}do g(a,b,c,d){}do h(){x=9;tell x-9;}");
        x.voice(0, 0);
        x.resume(1, 0);
        Due.lines(x, lines);
    }

    private static void conditionIsNotZero() {
        StoryRound x = Due.story("voice m(n){if(n){tell 1;}else{tell 2;}while(n){tell 3;n=0;}}");
        int[] values = {0, 1, -1, LEAST, GREATEST};
        for (int i = 0; i < values.length; i++) {
            x.voice(0, values[i]);
            x.resume(i + 1, 0);
        }
        Due.lines(x, "1:2 2:1 2:3 3:1 3:3 4:1 4:3 5:1 5:3");
    }

    private static void eachWithoutRounds() {
        StoryRound x = Due.story("voice m(){v=7;each v of new e(){tell 1;}tell v;}voice e(){return 9;}");
        x.voice(0, 0);
        Due.is("no round", x.resume(1, 0), 1);
        Due.lines(x, "1:7");
        Due.is("one step of each", x.told(1, 2), 3);
    }

    private static void eachInEach() {
        StoryRound x = Due.story("voice m(){each v of new g(2){each w of new g(v+1){0;tell v*10+w;}tell v;}return v;}voice g(n){i=0;while(i<n){yield i;i=i+1;}}");
        x.voice(0, 0);
        Due.is("each in each", x.resume(1, 0), 1);
        Due.lines(x, "1:0 1:0 1:10 1:11 1:1");
        Due.is("answer", x.answer(), 1);
        Due.states(x, "4444");
    }

    private static void eachIsWorkedOutOnce() {
        StoryRound x = Due.story("voice m(){each v of f(){0;v+2;p(v);}}do f(){tell 5;return new g();}do p(v){v=9;}voice g(){tell 10+yield 1;tell 20+yield 2;}");
        x.voice(0, 0);
        Due.is("resume", x.resume(1, 0), 1);
        Due.lines(x, "1:5 2:10 2:20");
        Due.is("one voice of f", x.count(1), 2);
    }

    private static void eachEndsWithAnother() {
        // 2 hands the turn to 3, which ends at once: what comes was given back at an end.
        StoryRound x = Due.story("voice m(a){v=4;each v of a{tell v;}tell v;tell state a;}voice g(h){hand h with 0;yield 3;}voice h(){return 6;}");
        x.voice(0, 2);
        x.voice(1, 3);
        x.voice(2, 0);
        Due.is("done", x.resume(1, 0), 1);
        Due.lines(x, "1:4 1:1");
        Due.states(x, "414");
        Due.handings(x, "0>1 1>2 2>3 3>1 1>0");
    }

    private static void handWhileClosedKeepsTheRing() {
        StoryRound x = Due.story("voice m(){try{close me;}catch 10 e{}a=new b();resume a with 0;close a;}voice b(){try{yield 1;}finally{try{hand 1 with 0;}catch 10 e{tell e;}}}");
        x.voice(0, 0);
        Due.is("resume", x.resume(1, 0), 1);
        Due.lines(x, "2:0");
        Due.is("the ring of the close of itself", x.ring(0), 1);
        Due.is("no more", x.ring(1), NONE);
    }

    private static void closedThatGoesOn() {
        // 14 is replaced and that is caught: it goes on, still being closed, and may resume others.
        StoryRound x = Due.story("voice m(){try{try{yield 1;}finally{throw 1 2;}}catch e{tell e;}tell resume new k() with 0;try{yield 3;}catch 10 e{tell 10;}return 4;}voice k(){yield 7;}");
        x.voice(0, 0);
        x.resume(1, 0);
        Due.is("close", x.close(1), 1);
        Due.lines(x, "1:2 1:7 1:10");
        Due.states(x, "61");
        Due.is("close again", x.close(1), 0);
    }

    private static void sweepWithoutArgument() {
        // 2 is lost; 3 has no argument, so that the 2 that it was made with reaches nobody.
        StoryRound x = Due.story("voice m(){new k(0);yield 1;}voice k(n){}voice l(){}");
        x.voice(0, 0);
        x.resume(1, 0);
        Due.is("the desk makes one", x.voice(2, 2), 3);
        Due.is("sweep", x.sweep(), 1);
        Due.states(x, "160");
        x = Due.story("voice m(){new k(0);yield 1;}voice k(n){}voice l(){}");
        x.voice(0, 0);
        x.resume(1, 0);
        Due.is("the desk makes one", x.voice(1, 2), 3);
        Due.is("its argument reaches 2", x.sweep(), 0);
        x.resume(3, 0);
        Due.is("it is over, and reaches nobody", x.sweep(), 1);
    }

    private static void sweepByWildNumbers() {
        StoryRound x = Due.story("voice m(a){b=61;c=-a-1;d=60;e=0;f=-2;new k();yield 1;}voice k(){}");
        x.voice(0, GREATEST);
        x.resume(1, 0);
        Due.is("numbers of no voice reach nobody", x.sweep(), 1);
        Due.states(x, "16");
        x = Due.story("voice m(){b=2;new k();yield 1;b=0;yield 2;}voice k(){}");
        x.voice(0, 0);
        x.resume(1, 0);
        Due.is("reached by a variable", x.sweep(), 0);
        x.resume(1, 0);
        Due.is("reached no more", x.sweep(), 1);
    }

    private static void sweepOfEleven() {
        StoryRound x = Due.story("voice m(n){while(n){n=n-1;resume new k() with 0;}n=1;yield 1;}voice k(){try{yield 1;}finally{tell me;}}");
        x.voice(0, 11);
        Due.is("eleven", x.resume(1, 0), 0);
        Due.is("all eleven are lost", x.sweep(), 11);
        Due.states(x, "166666666666");
        Due.lines(x, "2:2 3:3 4:4 5:5 6:6 7:7 8:8 9:9 10:10 11:11 12:12");
        Due.is("none is left", x.sweep(), 0);
        Due.is("one alone is not over", x.count(2), 1);
        Due.is("the closer is the desk", x.told(2, 5), 0);
    }

    private static void sweepTellsTheLatest() {
        StoryRound x = Due.story("voice m(n){while(n){n=n-1;resume new k() with 0;}n=1;yield 8;}voice k(){try{yield 1;}finally{if(me<4){throw 2 me;}return me;}}");
        x.voice(0, 3);
        x.resume(1, 0);
        Due.is("sweep", x.sweep(), 3);
        Due.states(x, "1556");
        Due.is("the latest", x.failure(0, 1), 3);
        Due.is("the answer stays", x.answer(), 8);
    }

    private static void answersOnlyOfOneAndNought() {
        StoryRound x = Due.story("voice m(n){try{yield n;yield n+1;}catch 1 e{yield e;}catch 2 e{return e;}throw 3 0;}voice w(){while(1){}}");
        x.voice(0, 5);
        Due.is("before", x.answer(), 0);
        x.resume(1, 0);
        Due.is("yielded", x.answer(), 5);
        x.inject(1, 1, -7);
        Due.is("yielded behind inject", x.answer(), -7);
        Due.is("a failure", x.resume(1, 0), 2);
        Due.is("stays behind a failure", x.answer(), -7);
        x.voice(0, 6);
        x.resume(2, 0);
        Due.is("ended behind inject", x.inject(2, 2, LEAST), 1);
        Due.is("given back behind inject", x.answer(), LEAST);
        Due.is("over", x.resume(2, 0), 3);
        Due.is("stays behind one that is over", x.answer(), LEAST);
        x.voice(0, 7);
        x.resume(3, 0);
        Due.is("close", x.close(3), 1);
        Due.is("stays behind close", x.answer(), 7);
        x.voice(1, 0);
        Due.is("spent", x.resume(4, 0), 4);
        Due.is("stays when it is spent", x.answer(), 7);
        x = Due.story("voice m(){}");
        x.voice(0, 0);
        Due.is("the end of a body", x.resume(1, 0), 1);
        Due.is("gives back 0", x.answer(), 0);
    }

    private static void toldEdges() {
        StoryRound x = withThreeOver("");
        int[] wrong = {-1, 7, LEAST, GREATEST};
        for (int v = 1; v <= 4; v++) {
            for (int what : wrong) {
                Due.is("told " + v + " " + what, x.told(v, what), BAD);
            }
            Due.is("its state", x.told(v, 0), "4561".charAt(v - 1) - '0');
            Due.is("its maker", x.told(v, 6), 0);
        }
    }

    private static void localEdges() {
        StoryRound x = Due.story("voice a(n){b=n+1;f(1,2);}do f(c,d){yield 1;}voice e(){yield 1;}voice g(h){}");
        x.voice(0, 3);
        x.voice(2, 0);
        x.voice(3, 4);
        x.resume(1, 0);
        x.resume(2, 0);
        int[] wrong = {-1, 2, LEAST, GREATEST};
        for (int n : wrong) {
            Due.is("variable " + n, x.local(1, 0, n), BAD);
            Due.is("variable " + n, x.local(1, 1, n), BAD);
            Due.is("call " + n, x.local(1, n, 0), BAD);
            Due.is("call " + n, x.local(1, n, n), BAD);
            Due.is("of one that is not begun", x.local(3, n, 0), BAD);
            Due.is("of one that is not begun", x.local(3, 0, n), BAD);
        }
        Due.is("the last variable", x.local(1, 1, 1), 4);
        Due.is("one without variables", x.local(2, 0, 0), BAD);
        Due.is("the argument", x.local(3, 0, 0), 4);
        Due.is("nothing behind it", x.local(3, 0, 1), BAD);
        Due.is("no call around it", x.local(3, 1, 0), BAD);
    }
}
