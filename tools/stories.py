"""Random stories, and texts that are none or nearly none."""
import re



class Stories:


    def __init__(s, r):
        s.r = r


    def prog(s):
        r = s.r
        ns = r.randint(1, 4)
        nd = r.randint(0, 2)
        s.scripts = [('v' + chr(97 + i), r.randint(0, 1)) for i in range(ns)]
        s.procs = [('p' + chr(97 + i), r.randint(0, 3)) for i in range(nd)]
        s.num = r.choice([1, 1, 2, 3])
        out = []
        order = [('s', x) for x in s.scripts] + [('d', x) for x in s.procs]
        r.shuffle(order)
        s.order = order
        for k, (n, a) in order:
            args = ['abcd'[i] for i in range(a)]
            s.vars = args + ['x', 'y'][:r.randint(1, 2)]
            s.used = set(args)
            s.isproc = k == 'd'
            s.loops = 0
            body = s.block(r.randint(1, 3), r.randint(1, 6))
            pre = ''.join(('%s=%s;' % (v, s.lit()) for v in s.vars if v not in args))
            out.append('%s %s(%s){%s%s' % ('voice' if k == 's' else 'do', n, ','.join(args), pre, body[1:]))
        return ' '.join(out)


    def lit(s):
        return str(s.r.choice([0, 1, 2, 3, 4, 5, 1, 2, 3, 7, 40]))


    def ref(s):
        r = s.r
        k = r.random()
        if k < 0.62:
            return r.choice(s.vars)
        if k < 0.68:
            return 'me'
        if k < 0.86:
            return str(r.randint(0, 5))
        return s.new()


    def new(s):
        n, a = s.r.choice(s.scripts)
        return 'new %s(%s)' % (n, s.E(0) if a else '')


    def U(s, d):
        r = s.r
        k = r.random()
        if d <= 0 or k < 0.3:
            return r.choice(s.vars + [s.lit()])
        if k < 0.36:
            return '-' + s.U(d - 1)
        if k < 0.4:
            return '!' + s.U(d - 1)
        if k < 0.47:
            return '(%s)' % s.E(d - 1)
        if k < 0.52:
            return 'me'
        if k < 0.57:
            return 'state ' + s.ref()
        if k < 0.68:
            return 'yield ' + s.U(d - 1)
        if k < 0.75:
            return s.new()
        if k < 0.85:
            return 'resume %s with %s' % (s.ref(), s.U(d - 1))
        if k < 0.89:
            return 'inject %d into %s with %s' % (r.randint(0, 12), s.ref(), s.U(d - 1))
        if k < 0.94:
            return 'hand %s with %s' % (s.ref(), s.U(d - 1))
        if s.procs:
            n, a = r.choice(s.procs)
            return '%s(%s)' % (n, ','.join((s.E(d - 1) for _ in range(a))))
        return s.lit()


    def E(s, d):
        r = s.r
        e = s.U(d)
        for _ in range(3):
            if r.random() < 0.25:
                e += r.choice(['+', '-', '*', '/', '%', '+', '-']) + s.U(d - 1)
        if r.random() < 0.1:
            e += r.choice(['<', '==']) + s.U(d - 1)
        return e


    def block(s, d, n):
        return '{' + ''.join((s.stmt(d) for _ in range(s.r.randint(0 if s.r.random() < 0.1 else 1, n)))) + '}'


    def stmt(s, d):
        r = s.r
        k = r.random()
        n = 3
        if d <= 0:
            k = k * 0.6
        if k < 0.13:
            return 'tell %s;' % s.E(2)
        if k < 0.25:
            return '%s=%s;' % (r.choice(s.vars), s.E(2))
        if k < 0.33:
            return '%s=%s;' % (r.choice(s.vars), s.new())
        if k < 0.38:
            return '%s=resume %s with %s;' % (r.choice(s.vars), s.ref(), s.U(1))
        if k < 0.43:
            return 'yield %s;' % s.U(1)
        if k < 0.47:
            return 'close %s;' % s.ref()
        if k < 0.52:
            return 'throw %d %s;' % (r.choice([0, 1, 2, 3, 11, 13]), s.E(1))
        if k < 0.54:
            return 'return %s;' % (s.E(1) if r.random() < 0.8 else '')
        if k < 0.6:
            return s.E(2) + ';'
        if k < 0.68:
            return 'if(%s)%s%s' % (s.E(1), s.block(d - 1, n), 'else' + s.block(d - 1, n) if r.random() < 0.5 else '')
        if k < 0.73:
            if r.random() < 0.5:
                return 'while(%s)%s' % (s.E(1), s.block(d - 1, n))
            v = r.choice(s.vars)
            return '%s=0;while(%s<%d){%s=%s+1;%s' % (v, v, r.randint(1, 4), v, v, s.block(d - 1, n)[1:])
        if k < 0.8:
            return 'each %s of %s %s' % (r.choice(s.vars), s.ref(), s.block(d - 1, n))
        t = 'try' + s.block(d - 1, n)
        c = 0
        while r.random() < 0.6 and c < 3:
            t += 'catch %s %s%s' % (r.choice(['', '', '1', '2', '3', '10', '11', '12', '13', '14', '0']), r.choice(s.vars), s.block(d - 1, n))
            c += 1
        if c == 0 or r.random() < 0.7:
            t += 'finally' + s.block(d - 1, n)
        return t
TOK = 'voice do if else while try catch finally throw return tell yield new resume inject close hand with into me state each of ( ) { } , ; = + - * / % < == ! x y a b va pa 1 2 123456789 1234567890 abcdefgh abcdefghi finallyx # = \x80 \t'.split(' ')



def nest(r, n):
    out = '0'
    for _ in range(n):
        k = r.choice(['(', '-', '!', 'state ', 'yield ', 'resume', 'resume2', 'inject', 'hand', 'hand2', 'call', 'new', 'new2'])
        if k == '(':
            out = '(%s)' % out
        elif k == 'resume':
            out = 'resume %s with 1' % out
        elif k == 'resume2':
            out = 'resume 1 with %s' % out
        elif k == 'hand':
            out = 'hand %s with 1' % out
        elif k == 'hand2':
            out = 'hand 1 with %s' % out
        elif k == 'inject':
            out = 'inject 3 into 1 with %s' % out
        elif k == 'call':
            out = 'f(1,%s)' % out
        elif k == 'new':
            out = 'new g(%s)' % out
        elif k == 'new2':
            out = '-new g(%s)' % out
        else:
            out = k + out
    return out



def nestb(r, n, e):
    out = 'tell %s;' % e
    for _ in range(n):
        k = r.randint(0, 6)
        if k == 0:
            out = 'if(1){%s}' % out
        if k == 1:
            out = 'if(1){}else{%s}' % out
        if k == 2:
            out = 'while(1){%s}' % out
        if k == 3:
            out = 'each x of 1{%s}' % out
        if k == 4:
            out = 'try{%s}finally{}' % out
        if k == 5:
            out = 'try{}catch 1 x{%s}' % out
        if k == 6:
            out = 'try{}finally{%s}' % out
    return out



def faulty(r):
    k = r.random()
    if k < 0.25:
        a = r.randint(0, 24)
        b = r.randint(max(0, 20 - a), max(1, 26 - a))
        return 'do f(a,b){} voice g(x){} voice m(){%s}' % nestb(r, b, nest(r, a))
    if k < 0.35:
        n = r.randint(10, 14)
        return ' '.join(('%s %s(%s){}' % (r.choice(['voice', 'do']), 'n' + chr(97 + i) if r.random() < 0.97 else 'na', '') for i in range(n)))
    if k < 0.5:
        vs = ['v' + chr(97 + i) for i in range(r.randint(10, 16))]
        st = []
        for v in vs:
            st.append(r.choice(['%s=1;', 'each %s of 1{}', 'try{}catch %s{}', 'try{}catch 1 %s{}']) % v)
            if r.random() < 0.4:
                st.insert(r.randint(0, len(st)), 'tell %s;' % r.choice(vs + ['zz']))
            if r.random() < 0.03:
                st.insert(r.randint(0, len(st)), 'q();')
        return '%s m(%s){%s}' % (r.choice(['do', 'voice']), r.choice(['', 'va', 'z']), ''.join(st)) + r.choice(['', ' do m(){}', ' do f(a,a){}', ' do f(a){f(1,2);}'])
    if k < 0.56:
        return 'do f(%s){f(%s);}' % (','.join(r.sample('abcdefg', r.randint(0, 6))), ','.join(('1' for _ in range(r.randint(0, 6)))))
    g = Stories(r)
    t = g.prog()
    while len(t) > 1200:
        t = g.prog()
    toks = re.findall('[a-z]+|[0-9]+|==|.', t)
    toks = [x for x in toks if x != ' ']
    for _ in range(r.choice([0, 1, 1, 1, 2, 3])):
        i = r.randrange(len(toks))
        k = r.random()
        if k < 0.3:
            del toks[i]
        elif k < 0.6:
            toks.insert(i, r.choice(TOK))
        elif k < 0.8:
            toks[i] = r.choice(TOK)
        elif k < 0.9:
            j = r.randrange(len(toks))
            toks[i], toks[j] = (toks[j], toks[i])
        else:
            toks = toks[:i + 1]
        if not toks:
            break
    out = ''
    for x in toks:
        if out and out[-1].isalnum() and x[:1].isalnum() and (r.random() < 0.97):
            out += r.choice([' ', '\n', '  '])
        elif r.random() < 0.1:
            out += r.choice([' ', '\n'])
        out += x
    return out
