/** The guards, and promises 18 and 19: failures, failure. */
public final class GuardTest {
    public static void main(String[] args) {
        catches();
        catchesByNumber();
        catchesEveryKind();
        closeIsCaughtByNone();
        finallyOnEveryWay();
        finallyReplaces();
        returnsInFinally();
        returnsThroughGuards();
        outwardsThroughCalls();
        outwardsThroughVoices();
        causes();
        causeOfThisCallAlone();
        beneath();
        beneathBehindThoseThere();
        listOfForty();
        failureFacts();
        guardsKeepWhatIsAround();
        yieldsInGuards();
        Due.end();
    }

    /** The lines that a script tells when it is resumed once, and how that comes out. */
    private static StoryRound played(String text, int outcome, String lines) {
        StoryRound x = Due.story(text);
        x.voice(0, 0);
        Due.is(text, x.resume(1, 0), outcome);
        Due.lines(x, lines);
        return x;
    }

    private static void catches() {
        played("voice m(){try{tell 1;}catch e{tell 2;}tell 3;}", 1, "1:1 1:3");
        played("voice m(){try{throw 1 7;tell 1;}catch e{tell e;}tell 3;}", 1, "1:7 1:3");
        played("voice m(){try{throw 1 7;}catch e{}tell e;}", 1, "1:7");
        StoryRound x = played("voice m(){try{throw 1 7;}catch e{tell e;throw 2 8;}catch f{tell 9;}}", 2, "1:7");
        Due.is("number", x.failure(0, 0), 2);
    }

    private static void catchesByNumber() {
        String text = "voice m(n){try{throw 3 5;}catch 2 e{tell 2;}catch 3 e{tell 3;}catch e{tell 4;}catch 3 e{tell 5;}}";
        played(text, 1, "1:3");
        played("voice m(){try{throw 3 5;}catch e{tell 4;}catch 3 e{tell 5;}}", 1, "1:4");
        played("voice m(){try{throw 13 5;}catch 13 e{tell 4;}catch 3 e{tell 5;}}", 1, "1:5");
        played("voice m(){try{throw 123456789 5;}catch 9 e{tell e;}}", 1, "1:5");
        played("voice m(){try{try{throw 3 5;}catch 2 e{tell 2;}}catch 3 e{tell 3;}}", 1, "1:3");
    }

    private static void catchesEveryKind() {
        played("voice m(){try{resume 0 with 0;}catch 10 e{tell e;}try{tell 1/0;}catch 11 e{tell e-1;}}", 1, "1:0 1:-1");
        played("voice m(){try{f();}catch 12 e{tell 12;}}do f(){f();}", 1, "1:12");
        played("voice m(){try{while(1){new m();}}catch 13 e{tell 13;}}", 1, "1:13");
    }

    private static void closeIsCaughtByNone() {
        StoryRound x = Due.story("voice m(){try{yield 1;}catch 14 e{tell 1;}catch e{tell 2;}finally{tell 3;}}");
        x.voice(0, 0);
        x.resume(1, 0);
        Due.is("close", x.close(1), 1);
        Due.lines(x, "1:3");
        x = Due.story("voice m(){try{try{yield 1;}finally{throw 4 5;}}catch 4 e{tell e;}tell 6;}");
        x.voice(0, 0);
        x.resume(1, 0);
        Due.is("14 is replaced, and that is caught", x.close(1), 1);
        Due.lines(x, "1:5 1:6");
        Due.states(x, "6");
    }

    private static void finallyOnEveryWay() {
        StoryRound x = played("voice m(){try{tell 1;}finally{tell 2;}tell 3;}", 1, "1:1 1:2 1:3");
        Due.is("finished", x.told(1, 3), 1);
        played("voice m(){try{throw 1 1;}catch e{tell 1;}finally{tell 2;}tell 3;}", 1, "1:1 1:2 1:3");
        x = played("voice m(){try{throw 1 1;}catch 2 e{tell 1;}finally{tell 2;}tell 3;}", 2, "1:2");
        Due.is("finished", x.told(1, 3), 1);
        played("voice m(){try{throw 1 1;}catch e{throw 2 2;}finally{tell 2;}tell 3;}", 2, "1:2");
        x = played("voice m(){try{return f(5);}finally{tell 2;}tell 3;}do f(x){tell x;return x;}", 1, "1:5 1:2");
        Due.is("answer", x.answer(), 5);
        Due.is("finished", x.told(1, 3), 1);
        x = played("voice m(){try{throw 1 6;}catch e{return e;}finally{e=9;tell 2;}}", 1, "1:2");
        Due.is("the value was worked out ahead", x.answer(), 6);
        Due.is("finished", x.told(1, 3), 1);
        x = played("voice m(){try{try{return 1;}finally{}}finally{return 2;}}", 1, "");
        Due.is("finished", x.told(1, 3), 2);
        x = played("voice m(){i=0;while(i<3){i=i+1;try{}finally{}}}", 1, "");
        Due.is("each that began", x.told(1, 3), 3);
        x = played("voice m(){try{try{throw 1 2;}finally{tell 1;}}finally{tell 2;}}", 2, "1:1 1:2");
        Due.is("finished", x.told(1, 3), 2);
    }

    private static void finallyReplaces() {
        StoryRound x = played("voice m(){try{throw 1 2;}finally{throw 3 4;}}", 2, "");
        Due.failures(x, "0 0 3 4 1 33, 1 2 1 2 1 14");
        x = played("voice m(){try{return 2;}finally{throw 3 4;}}", 2, "");
        Due.failures(x, "0 0 3 4 1 32");
        x = played("voice m(){try{}finally{throw 3 4;}}", 2, "");
        Due.failures(x, "0 0 3 4 1 23");
        x = played("voice m(){try{throw 1 2;}finally{try{throw 3 4;}catch e{tell e;}}}", 2, "1:4");
        Due.failures(x, "0 0 1 2 1 14");
    }

    private static void returnsInFinally() {
        StoryRound x = played("voice m(){try{throw 1 2;}finally{return 5;}}", 1, "");
        Due.is("the failure is gone", x.answer(), 5);
        Due.is("none came out", x.failures(), 0);
        x = played("voice m(){try{return 4;}finally{return 5;}}", 1, "");
        Due.is("the later return", x.answer(), 5);
        x = played("voice m(){try{try{throw 1 2;}finally{return 5;}}finally{tell 6;}}", 1, "1:6");
        Due.is("it goes on outwards", x.answer(), 5);
        x = played("voice m(){tell f();tell 2;}do f(){try{throw 1 2;}finally{return 5;}}", 1, "1:5 1:2");
        Due.is("of the call alone", x.answer(), 0);
    }

    private static void returnsThroughGuards() {
        StoryRound x = played("voice m(){try{try{return 1;}finally{tell 1;}}catch e{tell 9;}finally{tell 2;}}", 1, "1:1 1:2");
        Due.is("answer", x.answer(), 1);
        x = played("voice m(){try{try{return 1;}finally{throw 4 4;}}catch e{tell e;}tell 2;}", 1, "1:4 1:2");
        Due.is("the return is gone", x.answer(), 0);
        x = played("voice m(){each v of new g(){try{return v;}finally{tell 3;}}}voice g(){yield 8;}", 1, "1:3");
        Due.is("answer", x.answer(), 8);
    }

    private static void outwardsThroughCalls() {
        StoryRound x = played("voice m(){try{f(0);}catch e{tell e;}}do f(x){try{g();}finally{tell 1;}tell 9;}do g(){try{throw 2 7;}finally{tell 0;}}", 1, "1:0 1:1 1:7");
        Due.is("one call is left", x.told(1, 4), 0);
        x = played("voice m(){x=3;try{f(x);}catch e{yield x;}}do f(y){y=8;throw 1 1;}", 0, "");
        Due.is("calls", x.told(1, 4), 1);
        Due.is("its own variables", x.local(1, 0, 0), 3);
    }

    private static void outwardsThroughVoices() {
        String text = "voice m(){try{resume new a() with 0;}catch 2 e{tell e;}try{each v of new a(){}}catch 2 e{tell e+1;}resume new a() with 0;}"
                + "voice a(){resume new b() with 0;}voice b(){throw 2 7;}";
        StoryRound x = played(text, 2, "1:7 1:8");
        Due.states(x, "5555555");
        Due.failures(x, "0 0 2 7 7 " + text.indexOf("throw"));
    }

    private static void causes() {
        String text = "voice m(){try{throw 1 2;}catch e{throw 3 4;}}";
        Due.failures(played(text, 2, ""), "0 0 3 4 1 33, 1 1 1 2 1 14");
        text = "voice m(){try{throw 1 2;}catch e{try{throw 3 4;}catch f{throw 5 6;}}}";
        Due.failures(played(text, 2, ""), "0 0 5 6 1 56, 1 1 3 4 1 37, 2 1 1 2 1 14");
        text = "voice m(){try{throw 1 2;}catch e{try{}finally{throw 3 4;}}}";
        Due.failures(played(text, 2, ""), "0 0 3 4 1 46, 1 1 1 2 1 14");
        text = "voice m(){try{throw 1 2;}catch e{}throw 3 4;}";
        Due.failures(played(text, 2, ""), "0 0 3 4 1 34");
        text = "voice m(){try{throw 1 2;}catch e{tell 1/0;}}";
        Due.failures(played(text, 2, ""), "0 0 11 0 1 33");
        text = "voice m(){try{throw 1 2;}catch e{}finally{throw 3 4;}}";
        Due.failures(played(text, 2, ""), "0 0 3 4 1 42");
        text = "voice m(){try{throw 1 2;}catch e{try{throw 3 4;}catch f{}throw 5 6;}}";
        Due.failures(played(text, 2, ""), "0 0 5 6 1 57, 1 1 1 2 1 14");
    }

    private static void causeOfThisCallAlone() {
        String text = "voice m(){try{throw 1 2;}catch e{f();}}do f(){throw 3 4;}";
        Due.failures(played(text, 2, ""), "0 0 3 4 1 46");
        text = "voice m(){try{throw 1 2;}catch e{inject 3 into new k() with 4;}}voice k(){}";
        Due.failures(played(text, 2, ""), "0 0 3 4 1 33");
    }

    private static void beneath() {
        String text = "voice m(){try{throw 1 1;}catch e{try{throw 2 2;}finally{throw 3 3;}}}";
        Due.failures(played(text, 2, ""), "0 0 3 3 1 56, 1 1 1 1 1 14, 1 2 2 2 1 37, 2 1 1 1 1 14");
        text = "voice m(){try{try{throw 1 1;}finally{throw 2 2;}}finally{throw 3 3;}}";
        Due.failures(played(text, 2, ""), "0 0 3 3 1 57, 1 2 2 2 1 37, 2 2 1 1 1 18");
        text = "voice m(){try{try{throw 1 1;}finally{throw 2 2;}}catch e{throw 3 3;}}";
        Due.failures(played(text, 2, ""), "0 0 3 3 1 57, 1 1 2 2 1 37, 2 2 1 1 1 18");
    }

    private static void beneathBehindThoseThere() {
        String text = "voice m(){try{throw 1 1;}finally{try{throw 2 2;}finally{throw 3 3;}}}";
        Due.failures(played(text, 2, ""), "0 0 3 3 1 56, 1 2 2 2 1 37, 1 2 1 1 1 14");
        text = "voice m(){try{throw 1 1;}finally{f();}}do f(){try{throw 2 2;}finally{g();}}do g(){throw 3 3;}";
        int first = text.indexOf("throw 1");
        int second = text.indexOf("throw 2");
        int third = text.indexOf("throw 3");
        Due.failures(played(text, 2, ""), "0 0 3 3 1 " + third + ", 1 2 2 2 1 " + second + ", 1 2 1 1 1 " + first);
        text = "voice m(){try{throw 1 1;}finally{resume new k() with 0;}}voice k(){try{throw 2 2;}finally{throw 3 3;}}";
        second = text.indexOf("throw 2");
        third = text.indexOf("throw 3");
        Due.failures(played(text, 2, ""), "0 0 3 3 2 " + third + ", 1 2 2 2 2 " + second + ", 1 2 1 1 1 14");
    }

    private static void listOfForty() {
        StoryRound x = played("voice m(){f(45);}do f(n){if(n){try{throw 1 n;}finally{f(n-1);}}throw 2 0;}", 2, "");
        Due.is("40 at most", x.failures(), 40);
        Due.is("the last of them", x.failure(39, 1), 39);
        Due.is("one beyond", x.failure(40, 1), StoryRound.BAD);
        // Each call catches what the inner one threw, and throws with that as the cause.
        x = played("voice m(){f(50);}do f(n){if(n){try{f(n-1);}catch e{throw 1 n;}}throw 2 0;}", 2, "");
        Due.is("40 at most", x.failures(), 40);
        Due.is("the first is the outermost", x.failure(0, 1), 50);
        Due.is("the last of them", x.failure(39, 1), 11);
        Due.is("how far down", x.failure(39, 4), 39);
        Due.is("as a cause", x.failure(39, 5), 1);
        x = played("voice m(){f(38);}do f(n){if(n){try{f(n-1);}catch e{throw 1 n;}}throw 2 0;}", 2, "");
        Due.is("39", x.failures(), 39);
        Due.is("the last of them", x.failure(38, 0), 2);
    }

    private static void failureFacts() {
        StoryRound x = Due.story("voice m(n){try{tell 1;yield 0;}finally{throw 12 n;}}");
        Due.is("none came", x.failures(), 0);
        Due.is("none such", x.failure(0, 0), StoryRound.BAD);
        x.voice(0, -6);
        x.resume(1, 0);
        Due.is("inject", x.inject(1, 8, 9), 2);
        Due.is("two", x.failures(), 2);
        int[][] due = {{2, -6, 1, 39, 0, 0}, {8, 9, 0, StoryRound.NONE, 1, 2}};
        for (int i = 0; i < 2; i++) {
            for (int what = 0; what < 6; what++) {
                Due.is("failure " + i + ", " + what, x.failure(i, what), due[i][what]);
            }
            Due.is("what -1", x.failure(i, -1), StoryRound.BAD);
            Due.is("what 6", x.failure(i, 6), StoryRound.BAD);
        }
        Due.is("failure 2", x.failure(2, 0), StoryRound.BAD);
        Due.is("failure -1", x.failure(-1, 0), StoryRound.BAD);
        x.voice(0, 5);
        x.resume(2, 0);
        Due.is("the latest stays", x.failures(), 2);
        Due.is("close", x.close(2), 2);
        Due.failures(x, "0 0 2 5 2 39, 1 2 14 0 0 -9");
        x.voice(0, 5);
        Due.is("a later one", x.inject(3, 1, 1), 2);
        Due.failures(x, "0 0 1 1 0 -9");
    }

    private static void guardsKeepWhatIsAround() {
        // What is half worked out when a failure comes in a call is gone; what each runs over stays.
        StoryRound x = played("voice m(){each v of new g(){try{tell v+1/0;}catch e{tell -v;}finally{tell 100*v;}}}voice g(){yield 1;yield 2;}", 1,
                "1:-1 1:100 1:-2 1:200");
        Due.states(x, "44");
        played("voice m(){tell 10+f()+f();}do f(){try{return 1+1/0;}catch e{return 2;}finally{tell 3;}}", 1,
                "1:3 1:3 1:14");
    }

    private static void yieldsInGuards() {
        StoryRound x = Due.story("voice m(){try{yield 1;throw 1 5;}catch e{yield 2;throw 2 6;}finally{yield 3;tell 7;}}");
        x.voice(0, 0);
        for (int i = 1; i <= 3; i++) {
            Due.is("resume", x.resume(1, 0), 0);
            Due.is("answer", x.answer(), i);
        }
        Due.is("it goes on", x.resume(1, 0), 2);
        Due.lines(x, "1:7");
        Due.failures(x, "0 0 2 6 1 49, 1 1 1 5 1 22");
        x = Due.story("voice m(){try{throw 1 5;}finally{yield 3;}}");
        x.voice(0, 0);
        x.resume(1, 0);
        Due.is("closed in a finally", x.close(1), 1);
        Due.is("what went on is gone", x.failures(), 0);
        Due.states(x, "6");
    }
}
