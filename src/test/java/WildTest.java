/** Any arguments in any state: nothing is thrown, what is refused changes nothing, the same calls answer the same. */
public final class WildTest {
    private static final String[] TEXTS = {
        "voice a(x){tell x;y=yield x+1;tell y;return y*2;}",
        "voice g(n){i=0;while(i<n){yield i*i;i=i+1;}return 99;}voice m(){s=0;each v of new g(4){s=s+v;tell s;}return s;}",
        "voice a(n){try{yield n;tell 1/n;}catch 11 e{b=new a(0);resume b with me;yield b;}finally{tell me;throw 3 n;}}",
        "voice p(n){while(1){tell n;n=hand n with 3;}}voice q(o){x=hand o with 4;try{close o;}finally{resume me with x;}}",
        "voice m(n){while(n){n=n-1;new m(n);}f(n);}do f(n){try{f(n+1);}finally{yield n;}}",
        "voice a(){while(1){}}",
        "voice a(){tell b;}",
        "voice a(",
        "",
    };

    private long seed = 12345;

    public static void main(String[] args) {
        for (int run = 0; run < 300; run++) {
            new WildTest().run(run);
        }
        Due.end();
    }

    private int next(int bound) {
        seed = seed * 6364136223846793005L + 1442695040888963407L;
        return (int) ((seed >>> 33) % bound);
    }

    private int number() {
        int[] edges = {Integer.MIN_VALUE, Integer.MAX_VALUE, -1, 0, 60, 61, 300, 12, 40, 3000};
        return next(5) == 0 ? edges[next(edges.length)] : next(7) - 1;
    }

    private void run(int run) {
        seed += run * 7919L;
        StoryRound x = new StoryRound();
        StoryRound twin = new StoryRound();
        for (int calls = 0; calls < 512; calls++) {
            if (next(90) == 0 || calls == 3) {
                String text = TEXTS[next(TEXTS.length)];
                Due.feed(x, text);
                Due.feed(twin, text);
                Due.is("the twin's compile", twin.compile(), x.compile());
                calls += (text.length() + 7) / 8;
            }
            // A compile that comes of itself is rare, so that stories last.
            int which = next(20);
            which = which == 2 && next(30) != 0 ? 5 : which;
            int a = number();
            int b = number();
            int c = number();
            long before = x.digest();
            long got = call(x, which, a, b, c);
            Due.is("the twin's call " + which, call(twin, which, a, b, c), got);
            boolean compiles = which == 2;
            if (got < 0 && got > -9 && !compiles && which != 9 && which != 11) {
                Due.is("digest behind refused call " + which, x.digest(), before);
            }
        }
        Due.is("the twin's digest", twin.digest(), x.digest());
    }

    private static long call(StoryRound x, int which, int a, int b, int c) {
        switch (which) {
            case 0:
                return x.feed(0x2020202020202020L + (a & 7), b);
            case 1:
                return x.drop();
            case 2:
                return x.compile();
            case 3:
                return x.body(a, b);
            case 4:
                return x.voice(a, b);
            case 5:
                return x.resume(a, b);
            case 6:
                return x.inject(a, b, c);
            case 7:
                return x.close(a);
            case 8:
                return x.sweep();
            case 9:
                return x.answer();
            case 10:
                return x.told(a, b);
            case 11:
                return x.local(a, b, c);
            case 12:
                return x.lines() + x.handings();
            case 13:
                return x.line(a, b);
            case 14:
                return x.handing(a, b);
            case 15:
                return x.failures();
            case 16:
                return x.failure(a, b);
            case 17:
                return x.ring(a);
            case 18:
                return x.count(a);
            default:
                return x.voice(0, a);
        }
    }
}
