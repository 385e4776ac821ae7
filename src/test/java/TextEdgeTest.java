/** The edges of promises 1 to 5 and of THE TEXT: the last that is taken, and the first that is refused. */
public final class TextEdgeTest {
    private static final int BAD = StoryRound.BAD, STATE = StoryRound.STATE, FULL = StoryRound.FULL;
    private static final String[] KEYS = ("voice do if else while try catch finally throw return tell yield new "
            + "resume inject close hand with into me state each of").split(" ");

    public static void main(String[] args) {
        stateIsAheadOfBad();
        feedTakesOneToEight();
        feedFillsTheTape();
        dropOfAFullTape();
        storyOfThreeThousandBytes();
        everyByteBehindANumber();
        everyByteBehindAName();
        blanksBetweenTokens();
        keysAreNoNames();
        nearlyKeys();
        longestTokens();
        wordsAndFigures();
        signsOfTwo();
        longWhereNoneCanStand();
        openedByU();
        openedByPairs();
        openedByCalls();
        openedByBlocks();
        closedIsNotOpen();
        openIsForgotten();
        twelveBodies();
        fourArguments();
        oneArgumentOfAScript();
        twelveVariables();
        variablesInTheirOrder();
        leastWrongName();
        textAheadOfNames();
        firstFaultCounts();
        tooLongWhereOneCanStand();
        olderBytesAreGone();
        bodyEdges();
        Due.end();
    }

    private static void stateIsAheadOfBad() {
        StoryRound x = new StoryRound();
        allAreState("new", x);
        x.compile();
        allAreState("an empty tape was read", x);
        x = Due.story("voice a(){yield 1;}");
        x.voice(0, 0);
        x.resume(1, 0);
        Due.feed(x, "voice a(){yield 1;");
        Due.is("a fault", x.compile(), -10 - 18);
        allAreState("a fault was read", x);
        Due.is("the tape is empty all the same", x.drop(), 0);
    }

    private static void allAreState(String when, StoryRound x) {
        int[] wild = {0, 1, -1, 9, Integer.MIN_VALUE, Integer.MAX_VALUE};
        Due.is(when + ": sweep", x.sweep(), STATE);
        Due.is(when + ": answer", x.answer(), STATE);
        Due.is(when + ": lines", x.lines(), STATE);
        Due.is(when + ": handings", x.handings(), STATE);
        Due.is(when + ": failures", x.failures(), STATE);
        Due.is(when + ": digest", x.digest(), 0);
        for (int n : wild) {
            Due.is(when + ": body", x.body(n, n), STATE);
            Due.is(when + ": voice", x.voice(n, n), STATE);
            Due.is(when + ": resume", x.resume(n, n), STATE);
            Due.is(when + ": inject", x.inject(n, n, n), STATE);
            Due.is(when + ": close", x.close(n), STATE);
            Due.is(when + ": told", x.told(n, n), STATE);
            Due.is(when + ": local", x.local(n, n, n), STATE);
            Due.is(when + ": line", x.line(n, n), STATE);
            Due.is(when + ": handing", x.handing(n, n), STATE);
            Due.is(when + ": failure", x.failure(n, n), STATE);
            Due.is(when + ": ring", x.ring(n), STATE);
            Due.is(when + ": count", x.count(n), STATE);
        }
    }

    private static void feedTakesOneToEight() {
        StoryRound x = new StoryRound();
        int[] refused = {0, 9, -1, 16, Integer.MIN_VALUE, Integer.MAX_VALUE};
        for (int n : refused) {
            Due.is("feed of " + n, x.feed(-1L, n), BAD);
        }
        int has = 0;
        for (int n = 1; n <= 8; n++) {
            has += n;
            Due.is("feed of " + n, x.feed(0x2020202020202020L, n), has);
        }
        Due.is("feed of 9", x.feed(0L, 9), BAD);
        Due.is("none of what is BAD came", x.drop(), 36);
        // Of each word, the bytes behind the n lowest would be faults.
        String text = "voice m(){}";
        for (int i = 0; i < text.length(); i++) {
            x.feed(text.charAt(i) | 0xFFFFFFFFFFFFFF00L, 1);
        }
        Due.is("the lowest bytes alone came", x.compile(), 1);
    }

    private static StoryRound filled(int bytes) {
        StoryRound x = new StoryRound();
        for (int i = 0; i < bytes; i++) {
            x.feed(' ', 1);
        }
        return x;
    }

    private static void feedFillsTheTape() {
        for (int n = 1; n <= 8; n++) {
            StoryRound x = filled(3000 - n);
            if (n < 8) {
                Due.is("one too many for " + n, x.feed(-1L, n + 1), FULL);
            }
            Due.is("as many as there is room for: " + n, x.feed(-1L, n), 3000);
            for (int m = 1; m <= 8; m++) {
                Due.is("full: " + m, x.feed(-1L, m), FULL);
            }
            Due.is("full: 0", x.feed(-1L, 0), BAD);
            Due.is("full: 9", x.feed(-1L, 9), BAD);
            Due.is("nothing of what is FULL came", x.drop(), 3000);
        }
        StoryRound x = filled(2993);
        Due.is("2993 + 8", x.feed(-1L, 8), FULL);
        Due.is("none came of them", x.compile(), -10 - 2993);
    }

    private static void dropOfAFullTape() {
        StoryRound x = filled(3000);
        Due.is("drop of 3000", x.drop(), 3000);
        Due.is("drop of none", x.drop(), 0);
        Due.is("there is room again", x.feed(0x2020202020202020L, 8), 8);
        Due.is("drop of 8", x.drop(), 8);
    }

    private static void storyOfThreeThousandBytes() {
        String start = "voice a(){";
        String blanks = " ".repeat(2989);
        Due.bodies(start + blanks + "}", 1);
        Due.bodies(blanks + start + "}", 1);
        Due.bodies(start + "}" + blanks, 1);
        Due.fault(start + blanks + " ", 3000);
        Due.fault(start + blanks + "?", 2999);
        Due.fault(start + "}" + blanks.substring(1) + "?", 2999);
        Due.fault(" ".repeat(3000), 3000);
        Due.fault("voice a(){" + "0;".repeat(1495), 3000);
        Due.bodies("voice a(){" + "0;".repeat(1494) + "}", 1);
        StringBuilder sum = new StringBuilder("voice a(){tell 1");
        while (sum.length() < 2996) {
            sum.append("+1");
        }
        StoryRound x = Due.story(sum + ";}");
        x.voice(0, 0);
        x.resume(1, 0);
        Due.is("a long sum", x.line(0, 1), 1491);
        Due.is("in one step", x.count(3), 1);
    }

    private static boolean isLetter(int b) {
        return b >= 'a' && b <= 'z';
    }

    private static void everyByteBehindANumber() {
        for (int b = 0; b < 256; b++) {
            String text = "voice a(){tell 1" + (char) b + ";}";
            if (b == 32 || b == 10 || b >= '0' && b <= '9') {
                Due.bodies(text, 1);
            } else if (b == 0 || ";+-*/%<".indexOf(b) < 0) {
                Due.fault(text, 16);
            } else {
                Due.fault(text, 17);
            }
        }
    }

    private static void everyByteBehindAName() {
        for (int b = 0; b < 256; b++) {
            String text = "voice a" + (char) b + "(){}";
            if (b == 32 || b == 10 || isLetter(b)) {
                Due.bodies(text, 1);
            } else {
                Due.fault(text, b == '(' ? 8 : 7);
            }
        }
    }

    private static void blanksBetweenTokens() {
        Due.bodies("voice a(x){try{throw 1 x;}catch 1 e{}if(x<1){}else{}}", 1);
        Due.bodies("\n\nvoice\n a \n( x ) {\ntry {throw 1 x ; } catch 1\ne { } if ( x < 1 ) { } else { } }  \n", 1);
        Due.faultAtMark("^voi ce a(){}");
        Due.faultAtMark("voice a(){tell 1 ^2;}");
        Due.faultAtMark("voice a(){b=1;tell b ^b;}");
        Due.faultAtMark("voice a(){tell 1^= =1;}");
    }

    private static void keysAreNoNames() {
        Due.is("keys", KEYS.length, 23);
        for (String key : KEYS) {
            Due.faultAtMark("voice ^" + key + "(){}");
            Due.faultAtMark("do ^" + key + "(){}");
            Due.faultAtMark("voice a(^" + key + "){}");
            Due.faultAtMark("do a(b,^" + key + "){}");
            Due.faultAtMark("voice a(){each ^" + key + " of 1{}}");
            Due.faultAtMark("voice a(){try{}catch ^" + key + "{}}");
            Due.faultAtMark("voice a(){try{}catch 1 ^" + key + "{}}");
            Due.faultAtMark("voice a(){new ^" + key + "();}");
            Due.is(key + " = 1;", Due.compiled("voice a(){" + key + "=1;}") < 0 ? 1 : 0, 1);
        }
    }

    private static void nearlyKeys() {
        for (String key : KEYS) {
            String longer = key + "x";
            String shorter = key.substring(1);
            Due.bodies("voice " + longer + "(" + longer + "){" + longer + "=1;tell " + longer + ";}", 1);
            Due.bodies("voice " + shorter + "(" + shorter + "){" + shorter + "=1;tell " + shorter + ";}", 1);
        }
    }

    private static void longestTokens() {
        StoryRound x = Due.story("voice abcdefgh(abcdefgi){abcdefg=999999999;tell abcdefgi;tell abcdefg;tell 000000000;zzzzzzzz=7;zzzzzzz=8;tell zzzzzzzz;}");
        Due.is("variables", x.body(0, 2), 4);
        x.voice(0, 5);
        x.resume(1, 0);
        Due.lines(x, "1:5 1:999999999 1:0 1:7");
        Due.faultAtMark("voice abcdefgh(){}voice ^abcdefgh(){}");
        Due.bodies("voice abcdefgh(){}voice abcdefgi(){}voice abcdefg(){}", 3);
        Due.faultAtMark("voice a(){tell 000000000^0;}");
        Due.faultAtMark("voice a(){tell 999999999^99999999999999999;}");
        Due.faultAtMark("voice a(){tell finallyx^x;}");
    }

    private static void wordsAndFigures() {
        Due.faultAtMark("voice a^1(){}");
        Due.faultAtMark("voice a(){b^1=1;}");
        Due.faultAtMark("voice a(){tell 1^a;}");
        Due.bodies("voice a(){tell1;throw2 3;return4;}", 1);
        Due.faultAtMark("voice a(){^tella;}");
        Due.bodies("voice a(){try{}catch 1e{}catch2e{}}", 1);
    }

    private static void signsOfTwo() {
        Due.bodies("voice a(b){tell b==b;tell b ==b;b==b;b=b==b;}", 1);
        Due.faultAtMark("voice a(b){tell b==^=b;}");
        Due.faultAtMark("voice a(b){b==^=b;}");
        Due.faultAtMark("voice a(b){tell b^!=b;}");
        Due.faultAtMark("voice a(b){tell b<^=b;}");
        Due.bodies("voice a(b){tell b<!b;tell b==!b;tell b--b;tell b-!b;}", 1);
    }

    private static void longWhereNoneCanStand() {
        Due.faultAtMark("^abcdefghi");
        Due.faultAtMark("^1234567890");
        Due.faultAtMark("voice a(){}^abcdefghi");
        Due.faultAtMark("voice a ^abcdefghi(){}");
        Due.faultAtMark("voice a(b ^abcdefghi){}");
        Due.faultAtMark("voice a(){tell 1 ^abcdefghi;}");
        Due.faultAtMark("voice a(){tell 1 ^1234567890;}");
        Due.faultAtMark("voice a(){each b ^abcdefghi 1{}}");
        Due.faultAtMark("voice a(){inject ^abcdefghi into 1 with 1;}");
        Due.faultAtMark("voice a(){inject 1 ^abcdefghi 1 with 1;}");
        Due.faultAtMark("voice a(){new ^1234567890();}");
        Due.faultAtMark("voice a(){throw ^abcdefghi 1;}");
        Due.faultAtMark("voice a(){try{}^abcdefghi{}}");
        Due.faultAtMark("voice a(){throw 1 abcdefgh^i;}");
        Due.faultAtMark("voice a(){return abcdefgh^i;}");
        Due.faultAtMark("voice a(){close 123456789^0;}");
    }

    /** With the { of the body, 23 more may be open; the 24th of them can't stand. */
    private static void opens(String start, String one, int sign, String middle, String close, String end) {
        Due.bodies(start + one.repeat(23) + middle + close.repeat(23) + end, 1);
        Due.fault(start + one.repeat(24) + middle + close.repeat(24) + end, start.length() + 23 * one.length() + sign);
    }

    private static void openedByU() {
        String start = "voice a(){tell ";
        opens(start, "-", 0, "1", "", ";}");
        opens(start, "!", 0, "1", "", ";}");
        opens(start, "state ", 0, "1", "", ";}");
        opens(start, "yield ", 0, "1", "", ";}");
        opens(start, "(", 0, "1", ")", ";}");
    }

    private static void openedByPairs() {
        String start = "voice a(){tell ";
        opens(start, "resume ", 0, "1", " with 1", ";}");
        opens(start, "hand ", 0, "1", " with 1", ";}");
        opens(start, "inject 7 into ", 0, "1", " with 1", ";}");
        opens(start, "resume 1 with ", 0, "1", "", ";}");
        opens(start, "hand 1 with ", 0, "1", "", ";}");
        opens(start, "inject 7 into 1 with ", 0, "1", "", ";}");
    }

    private static void openedByCalls() {
        opens("do f(x){tell ", "f(", 1, "1", ")", ";}");
        opens("voice f(x){tell ", "new f(", 5, "1", ")", ";}");
        // The last ( of a call without values is one that opens, too.
        Due.bodies("do f(){tell " + "-".repeat(22) + "f();}", 1);
        Due.fault("do f(){tell " + "-".repeat(23) + "f();}", 12 + 23 + 1);
        Due.bodies("voice f(){tell " + "-".repeat(22) + "new f();}", 1);
        Due.fault("voice f(){tell " + "-".repeat(23) + "new f();}", 15 + 23 + 5);
    }

    private static void openedByBlocks() {
        String start = "voice a(){";
        // The first sign that opens in the 24th of them is the one that can't stand.
        opens(start, "if(1){", 2, "", "}", "}");
        opens(start, "if(1){}else{", 2, "", "}", "}");
        opens(start, "while(1){", 5, "", "}", "}");
        opens(start, "each x of 1{", 11, "", "}", "}");
        opens(start, "try{", 3, "", "}finally{}", "}");
        opens(start, "try{}catch e{", 3, "", "}", "}");
        opens(start, "try{}finally{", 3, "", "}", "}");
        // 23 are open: the ( of a condition is the 24th, what stands in it is none.
        Due.bodies(start + "try{".repeat(22) + "if(1){}" + "}finally{}".repeat(22) + "}", 1);
        Due.bodies(start + "try{".repeat(22) + "while(1){}" + "}finally{}".repeat(22) + "}", 1);
        Due.fault(start + "try{".repeat(22) + "if(-1){}", 10 + 88 + 3);
        Due.fault(start + "try{".repeat(23) + "if(1){}", 10 + 92 + 2);
        Due.fault(start + "try{".repeat(23) + "while(1){}", 10 + 92 + 5);
        Due.fault(start + "try{".repeat(23) + "x=1;each x of 1{}", 10 + 92 + 15);
        Due.fault(start + "try{".repeat(23) + "yield 1;", 10 + 92);
    }

    private static void closedIsNotOpen() {
        String start = "voice a(){tell ";
        Due.bodies(start + "(1)+".repeat(60) + "1;}", 1);
        Due.bodies(start + "-1+".repeat(60) + "1;}", 1);
        Due.bodies(start + "yield 1+".repeat(60) + "1;}", 1);
        Due.bodies(start + "resume 1 with 1*".repeat(60) + "1;}", 1);
        Due.bodies(start + "inject 1 into 1 with 1*".repeat(60) + "1;}", 1);
        Due.bodies(start + "hand -1 with -1*".repeat(60) + "1;}", 1);
        Due.bodies("do f(x){tell " + "f(1)+".repeat(60) + "1;}", 1);
        Due.bodies("voice a(){" + "if(1){}".repeat(60) + "try{}finally{}".repeat(60) + "}", 1);
        // 22 minus signs are open, then resume up to its second U: its first U may open no more.
        Due.bodies(start + "-".repeat(22) + "resume 1 with 1;}", 1);
        Due.fault(start + "-".repeat(22) + "resume -1 with 1;}", 15 + 22 + 7);
        Due.fault(start + "-".repeat(22) + "resume 1 with -1;}", 15 + 22 + 14);
        Due.bodies(start + "-".repeat(22) + "resume 1 with 1+--1;}", 1);
        // A minus between two values opens nothing.
        Due.bodies(start + "(".repeat(23) + "1-1" + ")".repeat(23) + ";}", 1);
    }

    private static void openIsForgotten() {
        StoryRound x = new StoryRound();
        Due.feed(x, "voice a(){tell " + "(".repeat(20));
        Due.is("a fault", x.compile(), -10 - 35);
        Due.feed(x, "voice a(){tell " + "(".repeat(23) + "1" + ")".repeat(23) + ";}");
        Due.is("23 may be open again", x.compile(), 1);
        Due.feed(x, "voice a(){tell " + "(".repeat(25));
        Due.is("a 25th", x.compile(), -10 - 38);
        Due.feed(x, "voice a(){tell x;y=1;}");
        Due.is("a name", x.compile(), -10 - 15);
        Due.feed(x, "voice a(x){tell x;}");
        Due.is("that fault is forgotten", x.compile(), 1);
    }

    private static String manyBodies(int n, String kind) {
        StringBuilder text = new StringBuilder();
        for (int i = 0; i < n; i++) {
            text.append(kind).append(' ').append((char) ('a' + i)).append("(){}");
        }
        return text.toString();
    }

    private static void twelveBodies() {
        for (int n = 1; n <= 12; n++) {
            Due.bodies(manyBodies(n, "do"), n);
            Due.bodies(manyBodies(n, "voice"), n);
        }
        Due.fault(manyBodies(13, "do"), 12 * 8);
        Due.fault(manyBodies(13, "voice"), 12 * 11);
        Due.fault(manyBodies(12, "voice") + "\n do", 12 * 11 + 2);
        Due.fault(manyBodies(12, "voice") + "\n abcdefghi", 12 * 11 + 2);
        Due.bodies(manyBodies(12, "voice") + "\n ", 12);
        StoryRound x = Due.story(manyBodies(12, "voice"));
        Due.is("the last body", x.body(11, 3), 11 * 11 + 6);
        Due.is("one behind it", x.body(12, 3), BAD);
        Due.is("a voice of the last", x.voice(11, 0), 1);
        Due.is("a voice of one behind it", x.voice(12, 0), BAD);
    }

    private static void fourArguments() {
        String[] heads = {"", "b", "b,c", "b,c,d", "b,c,d,e"};
        String[] values = {"", "1", "1,2", "1,2,3", "1,2,3,4"};
        for (int has = 0; has <= 4; has++) {
            StoryRound x = Due.story("do a(" + heads[has] + "){}");
            Due.is("arguments", x.body(0, 1), has);
            for (int given = 0; given <= 4; given++) {
                String text = "voice v(){a(" + values[given] + ");}do a(" + heads[has] + "){}";
                if (given == has) {
                    Due.bodies(text, 2);
                } else {
                    Due.fault(text, 10);
                }
            }
        }
        Due.faultAtMark("do a(b,c,d,e,^me){}");
        Due.faultAtMark("do a(b,c,d,e,^,f){}");
        Due.faultAtMark("do a(){a(1,2,3,4,^me);}");
        Due.faultAtMark("do a(){a(1,2,3,4,^);}");
        Due.faultAtMark("do a(){a(1,2,3,4,^-5,6);}");
        Due.faultAtMark("do a(){tell z;a(1,2,3,4,^5);}");
    }

    private static void oneArgumentOfAScript() {
        Due.bodies("voice a(){}", 1);
        Due.bodies("voice a(b){}", 1);
        Due.faultAtMark("voice a(b^,c){}");
        Due.bodies("voice a(){new a();}voice b(c){new b(1);}", 2);
        Due.faultAtMark("voice a(){new ^a(1);}");
        Due.faultAtMark("voice a(b){new ^a();}");
        Due.faultAtMark("voice a(b){new a(1^,2);}");
        Due.faultAtMark("voice a(b){new a(1^,);}");
    }

    private static void twelveVariables() {
        String eleven = "b=0;c=0;d=0;e=0;f=0;g=0;h=0;i=0;j=0;k=0;l=0;";
        StoryRound x = Due.story("voice a(a){" + eleven + "a=0;l=1;}do m(p,q,r,s){each p of q{}try{}catch r{}}");
        Due.is("12 variables", x.body(0, 2), 12);
        Due.is("4 arguments and nothing more", x.body(1, 2), 4);
        Due.faultAtMark("voice a(a){" + eleven + "^m=0;}");
        Due.faultAtMark("voice a(a){" + eleven + "a=1;b=1;l=1;each ^m of 1{}n=0;}");
        Due.faultAtMark("voice a(a){" + eleven + "try{}catch 1 ^m{}}");
        Due.bodies("voice a(a){" + eleven + "each l of 1{}try{}catch b{}}do y(){a=0;" + eleven + "}", 2);
        Due.faultAtMark("do a(p,q,r,s){b=0;c=0;d=0;e=0;f=0;g=0;h=0;i=0;^j=0;}");
        Due.bodies("do a(p,q,r,s){b=0;c=0;d=0;e=0;f=0;g=0;h=0;i=0;}", 1);
    }

    private static void variablesInTheirOrder() {
        // A use is no place; the first of =, each and catch counts, wherever it is used.
        StoryRound x = Due.story("voice a(z){tell y;try{tell w;}catch x{}each w of new b(){y=3;}x=2;w=1;z=0;yield 0;}voice b(){yield 5;}");
        x.voice(0, 9);
        x.resume(1, 0);
        int[] due = {0, 2, 1, 3, BAD};
        for (int i = 0; i < due.length; i++) {
            Due.is("variable " + i, x.local(1, 0, i), due[i]);
        }
        Due.lines(x, "1:0 1:0");
        Due.bodies("do a(a){a=a(a);}", 1);
    }

    private static void leastWrongName() {
        Due.faultAtMark("voice a(){tell ^p;tell q;}");
        Due.faultAtMark("voice a(){^p();tell q;new r();}");
        Due.faultAtMark("voice a(){new ^r();p();tell q;}");
        Due.faultAtMark("do a(b,^b){tell q;}do a(){}");
        Due.faultAtMark("do a(b,^b,b,c){}");
        Due.faultAtMark("voice a(){}do ^a(b,b){tell q;}");
        Due.faultAtMark("voice a(){tell ^q;}voice a(){}");
        Due.faultAtMark("voice a(){}voice b(){}voice ^b(){}voice a(){}");
        Due.faultAtMark("voice a(){tell b;b=0;tell ^c;}voice b(c){tell c;}");
    }

    private static void textAheadOfNames() {
        Due.faultAtMark("voice a(){tell z;}voice a(){^;}");
        Due.faultAtMark("voice a(){y();new y();tell z;^");
        Due.faultAtMark("do a(b,b){tell abcdefgh^i;}");
        Due.fault("voice a(){tell z;}" + manyBodies(12, "do"), 18 + 11 * 8);
    }

    /** Behind the fault stands what may begin a statement, and then another fault. */
    private static void firstFaultCounts() {
        String[] starts = {"return 1+", "return -", "return 1<", "return ", "throw ", "throw 1 ", "throw 1 1+", "tell ", "tell 1 ", "close ", "close 1 ",
            "x=", "x=1 ", "1 ", "if ", "if(", "if(1", "if(1)", "if(1){tell 1 ", "if(1){}else ", "if(1){}else{tell 1 ", "while ", "while(", "while(1",
            "while(1)", "while(1){tell 1 ", "each ", "each x ", "each x of ", "each x of 1 ", "each x of 1{tell 1 ", "try ", "try{tell 1 ", "try{}",
            "try{}catch ", "try{}catch 1 ", "try{}catch e ", "try{}catch e{tell 1 ", "try{}finally ", "try{}finally{tell 1 ", "a(", "a(1", "a(1 ", "a(1,",
            "new ", "new a ", "new a(", "new a(1 ", "resume ", "resume 1 ", "resume 1 with ", "inject ", "inject 1 ", "inject 1 into ", "inject 1 into 1 ",
            "inject 1 into 1 with ", "hand ", "hand 1 ", "hand 1 with ", "yield ", "state ", "-", "!", "(", "(1 ", "1==", "1*", "1/", "1%", "1-"};
        for (String start : starts) {
            Due.faultAtMark("voice a(){" + start + "^tell 2;;}");
            Due.faultAtMark("voice a(){" + start + "^tell 2;}}}}");
            Due.faultAtMark("voice a(){" + start + "^while(1){}abcdefghi=1;}");
            Due.faultAtMark("voice a(){while(1){if(1){try{" + start + "^tell 2;;}");
        }
        Due.faultAtMark("voice ^tell b(){;}");
        Due.faultAtMark("voice a ^tell(){;}");
        Due.faultAtMark("voice a(^tell){;}");
        Due.faultAtMark("voice a(b ^tell){;}");
        Due.faultAtMark("do a(b,^tell){;}");
        Due.faultAtMark("voice a()^tell{;}");
    }

    /** The 9th letter, the 10th figure: not the first byte, which could stand there. */
    private static void tooLongWhereOneCanStand() {
        String[] starts = {"tell ", "close ", "return ", "throw 1 ", "x=", "if(", "while(", "each x of ", "", "1<", "1==", "1+", "1-", "1*", "1/", "1%",
            "-", "!", "(", "(1+", "state ", "yield ", "resume ", "resume 1 with ", "hand ", "hand 1 with ", "inject 1 into ", "inject 1 into 1 with ",
            "a(", "a(1,", "a(1,2,3,", "new a(", "tell 1<", "return 1==", "throw 1 1<", "if(1<", "f(1<", "if(1){", "try{", "while(1){tell "};
        for (String start : starts) {
            Due.faultAtMark("voice a(){" + start + "abcdefgh^i;");
            Due.faultAtMark("voice a(){" + start + "abcdefgh^ijk(1);");
            Due.faultAtMark("voice a(){" + start + "123456789^0;");
            Due.faultAtMark("voice a(){" + start + "123456789^0123 tell 1;");
        }
        String[] names = {"each ", "try{}catch ", "try{}catch 1 ", "new ", "tell new "};
        for (String start : names) {
            Due.faultAtMark("voice a(){" + start + "abcdefgh^i;");
            Due.faultAtMark("voice a(){" + start + "abcdefgh^ijk(1);");
        }
        String[] numbers = {"throw ", "try{}catch ", "inject "};
        for (String start : numbers) {
            Due.faultAtMark("voice a(){" + start + "123456789^0;");
            Due.faultAtMark("voice a(){" + start + "123456789^0123 tell 1;");
        }
    }

    private static void olderBytesAreGone() {
        StoryRound x = new StoryRound();
        Due.feed(x, "voice a(){1==1;}");
        x.drop();
        Due.feed(x, "voice a(){1=");
        Due.is("the second = was dropped", x.compile(), -10 - 11);
        Due.feed(x, "voice abcdefgh(){tell 123456789;}");
        x.compile();
        Due.feed(x, "voice abc");
        Due.is("letters of an older text", x.compile(), -10 - 9);
        Due.feed(x, "voice abcdefgh(){tell 123");
        Due.is("figures of an older text", x.compile(), -10 - 25);
    }

    private static void bodyEdges() {
        StoryRound x = Due.story("voice a(){}do b(c){}");
        int[] wild = {-1, 2, 12, Integer.MIN_VALUE, Integer.MAX_VALUE};
        for (int i : wild) {
            Due.is("body " + i, x.body(i, 0), BAD);
        }
        int[] wrong = {-1, 4, Integer.MIN_VALUE, Integer.MAX_VALUE};
        for (int what : wrong) {
            Due.is("what " + what, x.body(0, what), BAD);
            Due.is("what " + what, x.body(1, what), BAD);
        }
        Due.is("the first", x.body(0, 3), 6);
        Due.is("the last", x.body(1, 3), 14);
    }
}
