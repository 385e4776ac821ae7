/** Promises 1 to 5: a new object, feed, drop, compile, body. */
public final class TextTest {
    public static void main(String[] args) {
        newObject();
        feed();
        drop();
        compileReads();
        tokens();
        longTokens();
        grammar();
        statements();
        tooManyBodies();
        tooManyArguments();
        tooDeep();
        names();
        variables();
        thirteenVariables();
        body();
        compileForgets();
        Due.end();
    }

    private static void newObject() {
        StoryRound x = new StoryRound();
        Due.is("new: drop", x.drop(), 0);
        Due.is("new: body", x.body(0, 0), StoryRound.STATE);
        Due.is("new: voice", x.voice(0, 0), StoryRound.STATE);
        Due.is("new: resume", x.resume(1, 0), StoryRound.STATE);
        Due.is("new: inject", x.inject(1, 0, 0), StoryRound.STATE);
        Due.is("new: close", x.close(1), StoryRound.STATE);
        Due.is("new: sweep", x.sweep(), StoryRound.STATE);
        Due.is("new: answer", x.answer(), StoryRound.STATE);
        Due.is("new: told", x.told(1, 0), StoryRound.STATE);
        Due.is("new: local", x.local(1, 0, 0), StoryRound.STATE);
        Due.is("new: lines", x.lines(), StoryRound.STATE);
        Due.is("new: line", x.line(0, 5), StoryRound.STATE);
        Due.is("new: handings", x.handings(), StoryRound.STATE);
        Due.is("new: handing", x.handing(0, 5), StoryRound.STATE);
        Due.is("new: failures", x.failures(), StoryRound.STATE);
        Due.is("new: failure", x.failure(0, 9), StoryRound.STATE);
        Due.is("new: ring", x.ring(0), StoryRound.STATE);
        Due.is("new: count", x.count(9), StoryRound.STATE);
        Due.is("new: digest", x.digest(), 0);
        Due.is("new: compile", x.compile(), -10);
    }

    private static void feed() {
        StoryRound x = new StoryRound();
        Due.is("feed 0 bytes", x.feed(0, 0), StoryRound.BAD);
        Due.is("feed 9 bytes", x.feed(0, 9), StoryRound.BAD);
        Due.is("feed -1 bytes", x.feed(0, -1), StoryRound.BAD);
        Due.is("feed the least number of bytes", x.feed(0, Integer.MIN_VALUE), StoryRound.BAD);
        Due.is("nothing came", x.drop(), 0);
        Due.is("feed 1 byte", x.feed('v' | ('x' << 8), 1), 1);
        Due.is("feed 3 bytes", x.feed('o' | ('i' << 8) | ('c' << 16), 3), 4);
        Due.feed(x, "e m(){}");
        Due.is("the lowest byte came first", x.compile(), 1);
        for (int i = 0; i < 374; i++) {
            Due.is("feed 8 of 2992", x.feed(0x2020202020202020L, 8), 8 * i + 8);
        }
        Due.is("2992 + 7", x.feed(-1L, 7), 2999);
        Due.is("2999 + 2", x.feed(-1L, 2), StoryRound.FULL);
        Due.is("2999 + 9 is BAD ahead of FULL", x.feed(-1L, 9), StoryRound.BAD);
        Due.is("2999 + 1", x.feed(-1L, 1), 3000);
        Due.is("3000 + 1", x.feed(-1L, 1), StoryRound.FULL);
        Due.is("the first byte that can't stand", x.compile(), -10 - 2992);
        Due.is("the tape is empty then", x.feed(32, 1), 1);
    }

    private static void drop() {
        StoryRound x = new StoryRound();
        Due.feed(x, "voice m(){");
        Due.is("drop", x.drop(), 10);
        Due.is("drop again", x.drop(), 0);
        Due.feed(x, "voice n(){}");
        Due.is("what was dropped is not read", x.compile(), 1);
        Due.feed(x, "x");
        Due.is("drop beside a story", x.drop(), 1);
        Due.is("the story stays", x.count(0), 1);
    }

    private static void compileReads() {
        Due.bodies("voice a(){}", 1);
        Due.bodies("do a(){}", 1);
        Due.bodies(" \n voice\na ( x )\n{ } \n", 1);
        Due.bodies("voice a(){}voice b(){}do c(){}", 3);
        StoryRound x = new StoryRound();
        Due.feed(x, "voice a(){tell 1;}");
        Due.is("compile", x.compile(), 1);
        Due.is("the tape is empty behind compile", x.drop(), 0);
        Due.is("compile of nothing", x.compile(), -10);
        Due.is("no story is there then", x.count(0), StoryRound.STATE);
        Due.feed(x, "  ");
        Due.is("compile of blanks: the end of the tape", x.compile(), -12);
    }

    private static void tokens() {
        Due.faultAtMark("voice a(){tell 1^\t;}");
        Due.faultAtMark("voice a(){tell 1^\r;}");
        Due.faultAtMark("voice a()^A{}");
        Due.faultAtMark("voice ^Ab(){}");
        Due.faultAtMark("voice a(){tell 1^>2;}");
        Due.faultAtMark("voice a(){tell 1;}^\u00e9");
        Due.faultAtMark("voice a(){tell 1;}^\u0000");
        Due.faultAtMark("^_voice a(){}");
        Due.bodies("voice a(){tell 1==2;tell 1 == 2;x=1;x==1;x = 1;}", 1);
        Due.faultAtMark("voice a(){x=1;tell x^= =1;}");
        Due.faultAtMark("voice a(){x==^=1;}");
        Due.faultAtMark("voice a(){x= ^=1;}");
        Due.faultAtMark("^voicea b(){}");
        Due.bodies("voice a(){try{}catch 3e{}}", 1);
        Due.bodies("voice a(){throw 3me;}", 1);
        Due.faultAtMark("voice ^while(){}");
        Due.faultAtMark("voice a(^me){}");
        Due.faultAtMark("voice a(){^of=1;}");
        Due.faultAtMark("voice a(){tell ^with;}");
    }

    private static void longTokens() {
        Due.bodies("voice abcdefgh(){tell 123456789;}", 1);
        Due.faultAtMark("voice abcdefgh^i(){}");
        Due.faultAtMark("voice abcdefgh^ijklm(){}");
        Due.faultAtMark("voice a(abcdefgh^i){}");
        Due.faultAtMark("voice a(){abcdefgh^i=1;}");
        Due.faultAtMark("voice a(){tell abcdefgh^i;}");
        Due.faultAtMark("voice a(){abcdefgh^i();}");
        Due.faultAtMark("voice a(){tell new abcdefgh^i();}");
        Due.faultAtMark("voice a(){each abcdefgh^i of 1{}}");
        Due.faultAtMark("voice a(){try{}catch abcdefgh^i{}}");
        Due.faultAtMark("voice a(){tell 123456789^0;}");
        Due.faultAtMark("voice a(){throw 123456789^0 1;}");
        Due.faultAtMark("voice a(){try{}catch 123456789^0 e{}}");
        Due.faultAtMark("voice a(){inject 123456789^0 into 1 with 1;}");
        Due.faultAtMark("voice a() ^abcdefghi{}");
        Due.faultAtMark("voice a() ^1234567890{}");
        Due.faultAtMark("^voicevoice a(){}");
        Due.faultAtMark("voice a(){resume 1 ^withwithw 1;}");
        Due.faultAtMark("voice ^1234567890(){}");
        Due.bodies("voice a(){tell 000000007;}", 1);
    }

    private static void grammar() {
        Due.fault("voice", 5);
        Due.fault("voice ", 6);
        Due.fault("voice a(){", 10);
        Due.fault("voice a(){tell 1", 16);
        Due.faultAtMark("^tell 1;");
        Due.faultAtMark("voice a(){}^x");
        Due.faultAtMark("voice a(){}^}");
        Due.faultAtMark("voice a^{}");
        Due.faultAtMark("voice a(x^,y){}");
        Due.faultAtMark("voice a(^,){}");
        Due.faultAtMark("do a(x,^){}");
        Due.faultAtMark("voice a(){tell ^;}");
        Due.faultAtMark("voice a(){tell 1<2^<3;}");
        Due.faultAtMark("voice a(){tell 1<2^==3;}");
        Due.faultAtMark("voice a(){tell (1<2)<3^==4;}");
        Due.bodies("voice a(){tell (1<2)<3;tell 1+2-3*4/5%6;tell --!-1;}", 1);
        Due.faultAtMark("voice a(){tell 1+^;}");
        Due.faultAtMark("voice a(){tell ^+1;}");
        Due.faultAtMark("voice a(){tell 1 ^2;}");
        Due.faultAtMark("voice a(){tell (1^;}");
        Due.faultAtMark("voice a(){tell state^;}");
        Due.faultAtMark("voice a(){tell yield^;}");
        Due.faultAtMark("voice a(){tell resume 1^;}");
        Due.faultAtMark("voice a(){tell resume 1 with^;}");
        Due.faultAtMark("voice a(){tell resume 1^+1 with 1;}");
        Due.faultAtMark("voice a(){tell inject ^(1) into 1 with 1;}");
        Due.faultAtMark("voice a(){tell inject 1 ^with 1 into 1;}");
        Due.faultAtMark("voice a(){tell hand 1^;}");
        Due.faultAtMark("voice a(){tell new ^1();}");
        Due.faultAtMark("voice a(){tell new a^;}");
        Due.faultAtMark("voice a(){tell new a(1^,2);}");
        Due.faultAtMark("do a(){a(1,^);}");
        Due.faultAtMark("do a(){a(^,1);}");
        Due.bodies("voice a(){tell resume -1 with !yield hand me with state 1;}", 1);
    }

    private static void statements() {
        Due.bodies("voice a(x){if(x){}else{}while(x){}each x of x{}try{}finally{}return;return 1;close x;x;}", 1);
        Due.faultAtMark("voice a(){if ^1{}}");
        Due.faultAtMark("voice a(){if(1)^tell 1;}");
        Due.faultAtMark("voice a(){if(1){}else ^if(1){}}");
        Due.faultAtMark("voice a(){^else{}}");
        Due.faultAtMark("voice a(){while(^){}}");
        Due.faultAtMark("voice a(){throw ^;}");
        Due.faultAtMark("voice a(){throw 1^;}");
        Due.faultAtMark("voice a(){throw ^-1 1;}");
        Due.faultAtMark("voice a(){return 1 ^1;}");
        Due.faultAtMark("voice a(){close ^;}");
        Due.faultAtMark("voice a(){each ^1 of 1{}}");
        Due.faultAtMark("voice a(){each x ^in 1{}}");
        Due.faultAtMark("voice a(){each x of 1^;}");
        Due.faultAtMark("voice a(){try{}^}");
        Due.faultAtMark("voice a(){try{}^tell 1;}");
        Due.faultAtMark("voice a(){try{}catch^{}}");
        Due.faultAtMark("voice a(){try{}catch 1^{}}");
        Due.faultAtMark("voice a(){try{}catch e ^f{}}");
        Due.faultAtMark("voice a(){try{}finally{}^catch e{}}");
        Due.faultAtMark("voice a(){try{}finally{}^finally{}}");
        Due.bodies("voice a(){try{}catch e{}catch 1 e{}catch 2 e{}finally{}}", 1);
        Due.faultAtMark("voice a(){^;}");
        Due.faultAtMark("voice a(){^{}}");
        Due.faultAtMark("voice a(){^voice b(){}}");
    }

    private static void tooManyBodies() {
        StringBuilder text = new StringBuilder();
        for (char c = 'a'; c < 'a' + 12; c++) {
            text.append("do ").append(c).append("(){}");
        }
        Due.bodies(text.toString(), 12);
        Due.fault(text + "do x(){}", text.length());
        Due.fault(text + "voice x(){}", text.length());
        Due.fault(text + " voice", text.length() + 1);
        Due.fault(text + "y", text.length());
    }

    private static void tooManyArguments() {
        Due.bodies("do a(b,c,d,e){a(1,2,3,4);}", 1);
        Due.faultAtMark("do a(b,c,d,e,^f){}");
        Due.faultAtMark("do a(b,c,d,e,^abcdefghi){}");
        Due.faultAtMark("do a(b,c,d,e,^){}");
        Due.faultAtMark("do a(b,c,d,e){a(1,2,3,4,^5);}");
        Due.faultAtMark("do a(b,c,d,e){a(1,2,3,4,^abcdefghi);}");
        Due.faultAtMark("do a(b,c,d,e){a(1,2,3,4,^(5+));}");
    }

    private static void tooDeep() {
        Due.bodies("voice a(){tell " + "(".repeat(23) + "1" + ")".repeat(23) + ";}", 1);
        Due.fault("voice a(){tell " + "(".repeat(24) + "1" + ")".repeat(24) + ";}", 15 + 23);
        Due.bodies("voice a(){" + "if(1){".repeat(23) + "}".repeat(24), 1);
        Due.fault("voice a(){" + "if(1){".repeat(24) + "}".repeat(25), 10 + 6 * 23 + 2);
        Due.fault("voice a(){" + "try{".repeat(24), 10 + 4 * 23 + 3);
        Due.bodies("voice a(){tell " + "-!".repeat(11) + "-1;}", 1);
        Due.fault("voice a(){tell " + "-!".repeat(12) + "1;}", 15 + 23);
        Due.bodies("voice a(){tell " + "state ".repeat(23) + "1;}", 1);
        Due.fault("voice a(){tell " + "state ".repeat(24) + "1;}", 15 + 6 * 23);
        Due.fault("voice a(){tell " + "yield ".repeat(24) + "1;}", 15 + 6 * 23);
        Due.fault("voice a(){tell " + "resume ".repeat(24) + "1;}", 15 + 7 * 23);
        Due.fault("voice a(){tell " + "hand ".repeat(24) + "1;}", 15 + 5 * 23);
        Due.fault("voice a(){tell " + "inject 1 into ".repeat(24) + "1;}", 15 + 14 * 23);
        Due.fault("voice a(){tell " + "resume 1 with ".repeat(24) + "1;}", 15 + 14 * 23);
        Due.bodies("voice a(){tell " + "resume 1 with ".repeat(23) + "1;}", 1);
        Due.bodies("voice a(){tell " + "-1*".repeat(40) + "1;}", 1);
        Due.bodies("voice a(){tell " + "-(".repeat(11) + "resume 1 with 1+resume 1 with 1" + ")".repeat(11) + ";}", 1);
        Due.fault("voice a(){tell " + "-(".repeat(11) + "--1" + ")".repeat(11) + ";}", 15 + 23);
        Due.fault("do f(x){" + "f(".repeat(24), 8 + 2 * 23 + 1);
        Due.fault("voice f(x){" + "new f(".repeat(24), 11 + 6 * 23 + 5);
        // The { of the body and 22 more are open: the ( of the if is the 24th.
        Due.faultAtMark("voice a(){" + "while(1){".repeat(22) + "if(^(1)){}");
        Due.bodies("voice a(){" + "while(1){".repeat(22) + "if(1){}" + "}".repeat(23), 1);
    }

    private static void names() {
        Due.faultAtMark("voice a(){}voice ^a(){}");
        Due.faultAtMark("voice a(){}do ^a(){}");
        Due.faultAtMark("do a(x,y,^x){}");
        Due.faultAtMark("voice a(){tell ^x;}");
        Due.faultAtMark("voice a(){tell ^a;}");
        Due.faultAtMark("voice a(x){}voice b(){tell ^x;}");
        Due.faultAtMark("voice a(){^b();}");
        Due.faultAtMark("voice a(){^b();}voice b(){}");
        Due.faultAtMark("voice a(){^b(1);}do b(){}");
        Due.faultAtMark("voice a(){^b();}do b(x){}");
        Due.faultAtMark("voice a(){tell new ^b();}");
        Due.faultAtMark("voice a(){tell new ^b();}do b(){}");
        Due.faultAtMark("voice a(){tell new ^b(1);}voice b(){}");
        Due.faultAtMark("voice a(){tell new ^b();}voice b(x){}");
        Due.bodies("voice a(){b(1);tell new c(1);tell new a();}do b(x){}voice c(x){}", 3);
        Due.faultAtMark("voice a(){tell ^x;tell y;}voice a(){}");
        Due.faultAtMark("voice a(){tell ^x;}do b(x,x){}");
        Due.faultAtMark("voice a(){tell x;}voice a(){tell 1^}");
        Due.bodies("do a(a){a=a(a);}", 1);
        Due.faultAtMark("voice m(){^f();}do f(a){}do f(){}");
    }

    private static void variables() {
        Due.bodies("voice a(){tell x;x=1;}", 1);
        Due.bodies("voice a(){tell x;each x of 1{}}", 1);
        Due.bodies("voice a(){tell x;try{}catch x{}}", 1);
        StoryRound x = Due.story("do a(p,q){tell z;each y of 1{x=p;}try{}catch 1 w{z=1;q=2;}x=2;}");
        Due.is("arguments", x.body(0, 1), 2);
        Due.is("variables", x.body(0, 2), 6);
        StoryRound y = Due.story("voice a(p){each q of 1{}try{r=1;}catch s{t=2;}yield 0;p=1;}");
        Due.is("voice", y.voice(0, 7), 1);
        Due.is("resume", y.resume(1, 0), 2);
        y = Due.story("voice a(p){try{each q of 0{}r=1;}catch 10 s{t=5;s=4;}yield 0;p=1;}");
        Due.is("voice", y.voice(0, 7), 1);
        Due.is("resume", y.resume(1, 0), 0);
        int[] want = {7, 0, 0, 4, 5, StoryRound.BAD};
        for (int i = 0; i < want.length; i++) {
            Due.is("variable " + i, y.local(1, 0, i), want[i]);
        }
    }

    private static void thirteenVariables() {
        String start = "voice z(){a=0;b=0;c=0;d=0;e=0;f=0;g=0;h=0;i=0;j=0;k=0;l=0;";
        StoryRound x = Due.story(start + "}");
        Due.is("12 variables", x.body(0, 2), 12);
        Due.faultAtMark(start + "^m=0;}");
        Due.faultAtMark(start + "a=1;^m=0;n=0;}");
        Due.faultAtMark(start + "each ^m of 1{}}");
        Due.faultAtMark(start + "try{}catch ^m{}}");
        Due.faultAtMark(start + "tell m;^m=0;}");
        Due.faultAtMark(start + "tell n;^m=0;n=0;}");
        Due.faultAtMark(start + "tell ^o;m=0;n=0;}");
        Due.faultAtMark(start + "^m=0;}do y(){tell q;}");
        Due.faultAtMark("do y(){tell ^q;}" + start + "m=0;}");
        Due.faultAtMark("do z(m,n){a=0;b=0;c=0;d=0;e=0;f=0;g=0;h=0;i=0;j=0;^k=0;}");
    }

    private static void body() {
        StoryRound x = Due.story("voice one(x){y=1;} do two(a,b,c){} do three(){} voice four(){}");
        int[][] want = {{1, 1, 2, 6}, {0, 3, 3, 22}, {0, 0, 0, 38}, {1, 0, 0, 54}};
        for (int i = 0; i < 4; i++) {
            for (int what = 0; what < 4; what++) {
                Due.is("body " + i + ", " + what, x.body(i, what), want[i][what]);
            }
            Due.is("body " + i + ", -1", x.body(i, -1), StoryRound.BAD);
            Due.is("body " + i + ", 4", x.body(i, 4), StoryRound.BAD);
        }
        Due.is("body -1", x.body(-1, 0), StoryRound.BAD);
        Due.is("body 4", x.body(4, 0), StoryRound.BAD);
        Due.is("body of the greatest", x.body(Integer.MAX_VALUE, 0), StoryRound.BAD);
    }

    private static void compileForgets() {
        StoryRound x = Due.story("voice a(x){tell x;yield 1;throw 3 x;}voice b(){resume me with 0;}");
        x.voice(0, 5);
        x.resume(1, 0);
        x.resume(1, 0);
        x.voice(1, 0);
        x.resume(2, 0);
        Due.is("a ring stands", x.ring(0), 2);
        Due.feed(x, "voice c(){yield 4;}");
        Due.is("compile", x.compile(), 1);
        Due.is("voices", x.count(1), 0);
        Due.is("not over", x.count(2), 0);
        Due.is("steps", x.count(3), 0);
        Due.is("answer", x.answer(), 0);
        Due.is("lines", x.lines(), 0);
        Due.is("line", x.line(0, 0), StoryRound.NONE);
        Due.is("handings", x.handings(), 0);
        Due.is("failures", x.failures(), 0);
        Due.is("ring", x.ring(0), StoryRound.NONE);
        Due.is("told", x.told(1, 0), StoryRound.BAD);
        Due.is("digest", x.digest(), 31 * 17);
        Due.is("voice", x.voice(0, 0), 1);
        Due.is("resume", x.resume(1, 0), 0);
        Due.is("answer of the new story", x.answer(), 4);
        Due.feed(x, "voice c(){yield 4");
        Due.is("compile of a fault", x.compile(), -27);
        Due.is("no story", x.told(1, 0), StoryRound.STATE);
        Due.is("no story: digest", x.digest(), 0);
        Due.is("no story: resume", x.resume(1, 0), StoryRound.STATE);
    }
}
