"""A second reading of ../shared/DOC.md, on generators and exceptions: what StoryRound is compared with."""
import sys
sys.setrecursionlimit(20000)
BAD, STATE, FULL, NONE = (-1, -2, -3, -9)
KEYS = set('voice do if else while try catch finally throw return tell yield new resume inject close hand with into me state each of'.split())



def w32(x):
    x &= 4294967295
    return x - (1 << 32) if x >> 31 else x



class Fault(Exception):


    def __init__(s, p):
        s.p = p



class P:


    def __init__(s, t):
        s.t = t
        s.i = 0
        s.depth = 0
        s.bodies = []
        s.namef = []
        s.uses = []


    def tok(s, i=None):
        t = s.t
        if i is None:
            i = s.i
        while i < len(t) and t[i] in (32, 10):
            i += 1
        if i >= len(t):
            return ('end', '', len(t), len(t))
        c = chr(t[i])
        if 'a' <= c <= 'z':
            j = i
            while j < len(t) and 97 <= t[j] <= 122:
                j += 1
            x = t[i:j].decode()
            return ('key' if x in KEYS else 'name', x, i, j)
        if '0' <= c <= '9':
            j = i
            while j < len(t) and 48 <= t[j] <= 57:
                j += 1
            return ('num', t[i:j].decode(), i, j)
        if c == '=' and i + 1 < len(t) and (t[i + 1] == 61):
            return ('sign', '==', i, i + 2)
        if c in '(){},;=+-*/%<!':
            return ('sign', c, i, i + 1)
        return ('junk', c, i, i + 1)


    def bad(s):
        raise Fault(s.tok()[2])


    def isx(s, x):
        k = s.tok()
        return k[0] in ('key', 'sign') and k[1] == x


    def eat(s, x):
        k = s.tok()
        if not s.isx(x):
            s.bad()
        s.i = k[3]
        return k[2]


    def open(s, x):
        if not s.isx(x) or s.depth == 24:
            s.bad()
        s.depth += 1
        return s.eat(x)


    def shut(s, x):
        s.eat(x)
        s.depth -= 1


    def name(s):
        k = s.tok()
        if k[0] != 'name':
            s.bad()
        if len(k[1]) > 8:
            raise Fault(k[2] + 8)
        s.i = k[3]
        return (k[1], k[2])


    def num(s):
        k = s.tok()
        if k[0] != 'num':
            s.bad()
        if len(k[1]) > 9:
            raise Fault(k[2] + 9)
        s.i = k[3]
        return int(k[1])


    def story(s):
        while True:
            if s.bodies and s.tok()[0] == 'end':
                break
            if len(s.bodies) == 12:
                s.bad()
            s.body()
        s.link()
        return s.bodies


    def body(s):
        b = {'script': None, 'decl': [], 'uses': [], 'calls': [], 'news': [], 'args': []}
        if s.isx('voice'):
            b['script'] = 1
        elif s.isx('do'):
            b['script'] = 0
        else:
            s.bad()
        s.i = s.tok()[3]
        b['name'], b['place'] = s.name()
        s.b = b
        s.bodies.append(b)
        s.open('(')
        if not s.isx(')'):
            b['args'].append(s.name())
            if not b['script']:
                while s.isx(','):
                    s.eat(',')
                    if len(b['args']) == 4:
                        s.bad()
                    b['args'].append(s.name())
        s.shut(')')
        b['block'] = s.block()


    def block(s):
        s.open('{')
        out = []
        while not s.isx('}'):
            out.append(s.stmt())
        s.shut('}')
        return out


    def cond(s):
        s.open('(')
        e = s.E()
        s.shut(')')
        return e


    def stmt(s):
        k = s.tok()
        pl = k[2]
        if k[0] == 'name':
            k2 = s.tok(k[3])
            if k2[0] == 'sign' and k2[1] == '=':
                n = s.name()
                s.b['decl'].append(n)
                s.eat('=')
                e = s.E()
                s.eat(';')
                return ('set', pl, n[0], e)
        if k[0] == 'key':
            x = k[1]
            if x == 'tell' or x == 'close':
                s.eat(x)
                e = s.E()
                s.eat(';')
                return (x, pl, e)
            if x == 'if':
                s.eat(x)
                c = s.cond()
                a = s.block()
                b = None
                if s.isx('else'):
                    s.eat('else')
                    b = s.block()
                return ('if', pl, c, a, b)
            if x == 'while':
                s.eat(x)
                c = s.cond()
                a = s.block()
                return ('while', pl, c, a)
            if x == 'throw':
                s.eat(x)
                n = s.num()
                e = s.E()
                s.eat(';')
                return ('throw', pl, n % 10, e)
            if x == 'return':
                s.eat(x)
                e = None
                if not s.isx(';'):
                    e = s.E()
                s.eat(';')
                return ('return', pl, e)
            if x == 'each':
                s.eat(x)
                n = s.name()
                s.b['decl'].append(n)
                s.eat('of')
                e = s.E()
                a = s.block()
                return ('each', pl, n[0], e, a)
            if x == 'try':
                s.eat(x)
                a = s.block()
                cs = []
                f = None
                while s.isx('catch'):
                    s.eat('catch')
                    q = None
                    if s.tok()[0] == 'num':
                        q = s.num()
                    n = s.name()
                    s.b['decl'].append(n)
                    cs.append((q, n[0], s.block()))
                if s.isx('finally'):
                    s.eat('finally')
                    f = s.block()
                elif not cs:
                    s.bad()
                return ('try', pl, a, cs, f)
        e = s.E()
        s.eat(';')
        return ('expr', pl, e)


    def E(s):
        a = s.S()
        if s.isx('<'):
            s.eat('<')
            return ('<', a, s.S())
        if s.isx('=='):
            s.eat('==')
            return ('==', a, s.S())
        return a


    def S(s):
        a = s.T()
        while s.isx('+') or s.isx('-'):
            o = s.tok()[1]
            s.eat(o)
            a = (o, a, s.T())
        return a


    def T(s):
        a = s.U()
        while s.isx('*') or s.isx('/') or s.isx('%'):
            o = s.tok()[1]
            s.eat(o)
            a = (o, a, s.U())
        return a


    def U(s):
        for o in '-!':
            if s.isx(o):
                s.open(o)
                a = s.U()
                s.depth -= 1
                return ('neg' if o == '-' else 'not', a)
        k = s.tok()
        if k[0] == 'num':
            return ('num', s.num())
        if k[0] == 'name':
            n = s.name()
            if s.isx('('):
                s.open('(')
                args = []
                if not s.isx(')'):
                    args.append(s.E())
                    while s.isx(','):
                        s.eat(',')
                        if len(args) == 4:
                            s.bad()
                        args.append(s.E())
                s.shut(')')
                s.b['calls'].append((n[0], n[1], len(args)))
                return ('call', n[0], args)
            s.b['uses'].append(n)
            return ('var', n[0])
        if s.isx('('):
            return s.cond()
        if s.isx('me'):
            s.eat('me')
            return ('me',)
        if s.isx('state') or s.isx('yield'):
            o = k[1]
            s.open(o)
            a = s.U()
            s.depth -= 1
            return (o, a)
        if s.isx('new'):
            s.eat('new')
            n = s.name()
            s.open('(')
            a = None
            if not s.isx(')'):
                a = s.E()
            s.shut(')')
            s.b['news'].append((n[0], n[1], 0 if a is None else 1))
            return ('new', n[0], a)
        if s.isx('resume') or s.isx('hand'):
            o = k[1]
            s.open(o)
            a = s.U()
            s.eat('with')
            b = s.U()
            s.depth -= 1
            return (o, a, b)
        if s.isx('inject'):
            s.open('inject')
            n = s.num()
            s.eat('into')
            a = s.U()
            s.eat('with')
            b = s.U()
            s.depth -= 1
            return ('inject', n % 10, a, b)
        s.bad()


    def link(s):
        f = []
        by = {}
        for i, b in enumerate(s.bodies):
            if b['name'] in by:
                f.append(b['place'])
            else:
                by[b['name']] = i
        for b in s.bodies:
            vs = []
            for n, p in b['args']:
                if n in vs:
                    f.append(p)
                else:
                    vs.append(n)
            for n, p in b['decl']:
                if n not in vs:
                    vs.append(n)
                    if len(vs) == 13:
                        f.append(p)
            b['vars'] = vs
            for n, p in b['uses']:
                if n not in vs:
                    f.append(p)
            for n, p, c in b['calls']:
                if n not in by or s.bodies[by[n]]['script'] or len(s.bodies[by[n]]['args']) != c:
                    f.append(p)
            for n, p, c in b['news']:
                if n not in by or not s.bodies[by[n]]['script'] or len(s.bodies[by[n]]['args']) != c:
                    f.append(p)
        if f:
            raise Fault(min(f))
        s.by = by



class F:


    def __init__(s, n, v, vo, pl, cause=None):
        s.n, s.v, s.vo, s.pl, s.cause, s.ben = (n, v, vo, pl, cause, [])



class FailEx(Exception):


    def __init__(s, f):
        s.f = f



class RetEx(Exception):


    def __init__(s, v):
        s.v = v



class SpentEx(Exception):
    pass



class Frame:


    def __init__(s, b, args):
        s.vars = {n: 0 for n in b['vars']}
        s.names = b['vars']
        for (n, _), a in zip(b['args'], args):
            s.vars[n] = a
        s.place = None
        s.catches = []



class V:


    def __init__(s, num, script, arg, maker):
        s.num, s.script, s.arg, s.maker = (num, script, arg, maker)
        s.state = 0
        s.steps = 0
        s.fin = 0
        s.frames = []
        s.res = NONE
        s.gen = None
        s.closing = False



class World:


    def __init__(s):
        s.tape = b''
        s.ok = False


    def feed(s, bs, n):
        if not 1 <= n <= 8:
            return BAD
        if len(s.tape) + n > 3000:
            return FULL
        s.tape += bytes((bs >> 8 * i & 255 for i in range(n)))
        return len(s.tape)


    def drop(s):
        n = len(s.tape)
        s.tape = b''
        return n


    def compile(s):
        p = P(s.tape)
        s.tape = b''
        s.ok = False
        try:
            s.bodies = p.story()
        except Fault as f:
            return -10 - f.p
        s.by = p.by
        s.ok = True
        s.voices = []
        s.lines_ = []
        s.hand_ = []
        s.steps = 0
        s.spent = False
        s.ans = 0
        s.latest = None
        s.ring_ = []
        return len(s.bodies)


    def alive(s):
        return sum((v.state < 4 for v in s.voices))


    def get(s, n):
        return s.voices[n - 1] if 1 <= n <= len(s.voices) else None


    def make(s, sc, a, m):
        if len(s.voices) == 60 or s.alive() == 12:
            return None
        s.voices.append(V(len(s.voices) + 1, sc, a, m))
        return len(s.voices)


    def step(s, v):
        if s.steps == 6000:
            raise SpentEx()
        s.steps += 1
        v.steps += 1


    def fail(s, v, n):
        raise FailEx(F(n, 0, v.num, v.frames[-1].place))


    def main(s, v):
        b = s.bodies[v.script]
        return (yield from s.invoke(v, b, [v.arg] if b['args'] else []))


    def invoke(s, v, b, args):
        fr = Frame(b, args)
        v.frames.append(fr)
        try:
            yield from s.blk(v, fr, b['block'])
            r = 0
        except RetEx as e:
            r = e.v
        except FailEx:
            v.frames.pop()
            raise
        v.frames.pop()
        return r


    def blk(s, v, fr, sts):
        for st in sts:
            s.step(v)
            fr.place = st[1]
            yield from s.st(v, fr, st)


    def st(s, v, fr, st):
        k = st[0]
        if k == 'set':
            fr.vars[st[2]] = (yield from s.ev(v, fr, st[3]))
        elif k == 'expr':
            yield from s.ev(v, fr, st[2])
        elif k == 'tell':
            x = (yield from s.ev(v, fr, st[2]))
            s.lines_.append((v.num, x))
        elif k == 'if':
            c = (yield from s.ev(v, fr, st[2]))
            if c:
                yield from s.blk(v, fr, st[3])
            elif st[4] is not None:
                yield from s.blk(v, fr, st[4])
        elif k == 'while':
            while (yield from s.ev(v, fr, st[2])):
                yield from s.blk(v, fr, st[3])
                s.step(v)
                fr.place = st[1]
        elif k == 'throw':
            x = (yield from s.ev(v, fr, st[3]))
            raise FailEx(F(st[2], x, v.num, fr.place, fr.catches[-1] if fr.catches else None))
        elif k == 'return':
            x = 0
            if st[2]:
                x = (yield from s.ev(v, fr, st[2]))
            raise RetEx(x)
        elif k == 'close':
            a = (yield from s.ev(v, fr, st[2]))
            t = s.get(a)
            if t is None:
                s.fail(v, 10)
            if t.state in (2, 3):
                s.ring(v, t)
                s.fail(v, 10)
            if t.state == 0:
                t.state = 6
            elif t.state == 1:
                yield ('throwin', t, F(14, 0, v.num, fr.place), True)
        elif k == 'each':
            a = (yield from s.ev(v, fr, st[3]))
            first = True
            while True:
                if not first:
                    s.step(v)
                    fr.place = st[1]
                first = False
                t = s.ready(v, a)
                how, x = (yield ('resume', t, 0))
                if how == 'e':
                    break
                fr.vars[st[2]] = x
                yield from s.blk(v, fr, st[4])
        elif k == 'try':
            pend = None
            try:
                yield from s.blk(v, fr, st[2])
            except RetEx as e:
                pend = e
            except FailEx as e:
                pend = e
                if e.f.n != 14:
                    for q, n, b in st[3]:
                        if q is None or q == e.f.n:
                            pend = None
                            h = (n, b, e.f)
                            break
                    else:
                        h = None
                    if h:
                        fr.vars[h[0]] = h[2].v
                        fr.catches.append(h[2])
                        try:
                            yield from s.blk(v, fr, h[1])
                        except (RetEx, FailEx) as e2:
                            pend = e2
                        fr.catches.pop()
            if st[4] is not None:
                v.fin += 1
                keep = list(fr.catches)
                try:
                    yield from s.blk(v, fr, st[4])
                except FailEx as e:
                    if isinstance(pend, FailEx):
                        e.f.ben.append(pend.f)
                    raise
            if pend:
                raise pend


    def ring(s, v, t):
        r = [v.num]
        o = v
        while o is not t:
            o = s.get(o.res)
            r.append(o.num)
        s.ring_ = r


    def ready(s, v, a):
        t = s.get(a)
        if t is None:
            s.fail(v, 10)
        if t.state in (2, 3):
            s.ring(v, t)
        if t.state not in (0, 1):
            s.fail(v, 10)
        return t


    def ev(s, v, fr, e):
        k = e[0]
        if k == 'num':
            return e[1]
        if k == 'var':
            return fr.vars[e[1]]
        if k == 'me':
            return v.num
        if k in ('neg', 'not'):
            a = (yield from s.ev(v, fr, e[1]))
            return w32(-a) if k == 'neg' else int(a == 0)
        if k in ('+', '-', '*', '/', '%', '<', '=='):
            a = (yield from s.ev(v, fr, e[1]))
            b = (yield from s.ev(v, fr, e[2]))
            if k == '+':
                return w32(a + b)
            if k == '-':
                return w32(a - b)
            if k == '*':
                return w32(a * b)
            if k == '<':
                return int(a < b)
            if k == '==':
                return int(a == b)
            if b == 0:
                s.fail(v, 11)
            q = abs(a) // abs(b)
            if (a < 0) != (b < 0):
                q = -q
            return w32(q) if k == '/' else w32(a - q * b)
        if k == 'state':
            a = (yield from s.ev(v, fr, e[1]))
            t = s.get(a)
            return t.state if t else 9
        if k == 'yield':
            a = (yield from s.ev(v, fr, e[1]))
            if v.closing:
                s.fail(v, 10)
            return (yield ('yield', a))
        if k == 'new':
            a = 0
            if e[2] is not None:
                a = (yield from s.ev(v, fr, e[2]))
            n = s.make(s.by[e[1]], a, v.num)
            if n is None:
                s.fail(v, 13)
            return n
        if k == 'call':
            args = []
            for x in e[2]:
                args.append((yield from s.ev(v, fr, x)))
            s.step(v)
            if len(v.frames) == 60:
                s.fail(v, 12)
            return (yield from s.invoke(v, s.bodies[s.by[e[1]]], args))
        if k == 'resume':
            a = (yield from s.ev(v, fr, e[1]))
            b = (yield from s.ev(v, fr, e[2]))
            t = s.ready(v, a)
            return (yield ('resume', t, b))[1]
        if k == 'hand':
            a = (yield from s.ev(v, fr, e[1]))
            b = (yield from s.ev(v, fr, e[2]))
            if v.closing:
                s.fail(v, 10)
            t = s.ready(v, a)
            return (yield ('hand', t, b))
        if k == 'inject':
            a = (yield from s.ev(v, fr, e[2]))
            b = (yield from s.ev(v, fr, e[3]))
            t = s.ready(v, a)
            f = F(e[1], b, v.num, fr.place)
            if t.state == 0:
                t.state = 5
                raise FailEx(f)
            return (yield ('throwin', t, f, False))[1]
        raise 0


    def drive(s, t, msg):
        s.hand_.append((0, t.num))
        t.res = 0
        cur = t
        while True:
            cur.state = 2
            try:
                if cur.gen is None:
                    cur.gen = s.main(cur)
                    req = next(cur.gen)
                elif isinstance(msg, F):
                    req = cur.gen.throw(FailEx(msg))
                else:
                    req = cur.gen.send(msg)
            except StopIteration as e:
                req = ('end', e.value)
            except FailEx as e:
                req = ('fail', e.f)
            except SpentEx:
                for v in s.voices:
                    if v.state < 4:
                        v.state = 5
                        v.frames = []
                s.spent = True
                s.hand_.append((cur.num, 0))
                return 4
            k = req[0]
            if k == 'resume':
                cur.state = 3
                n = req[1]
                n.res = cur.num
                msg = req[2]
            elif k == 'hand':
                cur.state = 1
                n = req[1]
                n.res = cur.res
                msg = req[2]
            elif k == 'throwin':
                cur.state = 3
                n = req[1]
                n.res = cur.num
                msg = req[2]
                n.closing = req[3]
            else:
                n = s.get(cur.res)
                s.hand_.append((cur.num, cur.res))
                if k == 'yield':
                    cur.state = 1
                    msg = ('y', req[1])
                    if n is None:
                        s.ans = req[1]
                        return 0
                elif k == 'end':
                    cur.state = 6 if cur.closing else 4
                    msg = ('e', req[1])
                    cur.frames = []
                    if n is None:
                        if not cur.closing:
                            s.ans = req[1]
                        return 1
                else:
                    cur.frames = []
                    if cur.closing and req[1].n == 14:
                        cur.state = 6
                        msg = ('e', 0)
                        if n is None:
                            return 1
                    else:
                        cur.state = 5
                        msg = req[1]
                        if n is None:
                            s.latest = req[1]
                            return 2
                cur = n
                continue
            s.hand_.append((cur.num, n.num))
            cur = n


    def body(s, i, w):
        if not s.ok:
            return STATE
        if not 0 <= i < len(s.bodies) or not 0 <= w <= 3:
            return BAD
        b = s.bodies[i]
        return [b['script'], len(b['args']), len(b['vars']), b['place']][w]


    def voice(s, sc, a):
        if not s.ok or s.spent:
            return STATE
        if not 0 <= sc < len(s.bodies) or not s.bodies[sc]['script']:
            return BAD
        r = s.make(sc, a if s.bodies[sc]['args'] else 0, 0)
        return FULL if r is None else r


    def resume(s, n, v):
        if not s.ok or s.spent:
            return STATE
        t = s.get(n)
        if not t:
            return BAD
        if t.state >= 4:
            return 3
        return s.drive(t, v)


    def inject(s, n, k, v):
        if not s.ok or s.spent:
            return STATE
        t = s.get(n)
        if not t or not 0 <= k <= 9:
            return BAD
        if t.state >= 4:
            return 3
        f = F(k, v, 0, NONE)
        if t.state == 0:
            t.state = 5
            s.latest = f
            return 2
        return s.drive(t, f)


    def close(s, n):
        if not s.ok or s.spent:
            return STATE
        t = s.get(n)
        if not t:
            return BAD
        if t.state >= 4:
            return 0
        if t.state == 0:
            t.state = 6
            return 1
        t.closing = True
        return s.drive(t, F(14, 0, 0, NONE))


    def sweep(s):
        if not s.ok or s.spent:
            return STATE
        reach = {v.num for v in s.voices if v.maker == 0}
        todo = list(reach)
        while todo:
            v = s.get(todo.pop())
            if v.state >= 4:
                continue
            vals = [v.arg] if v.state == 0 else [x for fr in v.frames for x in fr.vars.values()]
            for x in vals:
                if s.get(x) and x not in reach:
                    reach.add(x)
                    todo.append(x)
        lost = [v.num for v in s.voices if v.state < 4 and v.num not in reach]
        n = 0
        for x in lost:
            if s.get(x).state >= 4:
                continue
            n += 1
            if s.close(x) == 4:
                break
        return n


    def answer(s):
        return s.ans if s.ok else STATE


    def told(s, n, w):
        if not s.ok:
            return STATE
        v = s.get(n)
        if not v or not 0 <= w <= 6:
            return BAD
        return [v.state, v.script, v.steps, v.fin, len(v.frames), v.res, v.maker][w]


    def local(s, n, c, i):
        if not s.ok:
            return STATE
        v = s.get(n)
        if not v:
            return BAD
        if v.state == 0:
            return v.arg if c == 0 and i == 0 and s.bodies[v.script]['args'] else BAD
        if v.state >= 4 or not 0 <= c < len(v.frames):
            return BAD
        fr = v.frames[-1 - c]
        if not 0 <= i < len(fr.names):
            return BAD
        return fr.vars[fr.names[i]]


    def lines(s):
        return len(s.lines_) if s.ok else STATE


    def handings(s):
        return len(s.hand_) if s.ok else STATE


    def pair(s, l, i, w):
        if not s.ok:
            return STATE
        if w not in (0, 1):
            return BAD
        if not 0 <= i < min(300, len(l)):
            return NONE
        return l[i][w]


    def line(s, i, w):
        return s.pair(s.lines_ if s.ok else None, i, w)


    def handing(s, i, w):
        return s.pair(s.hand_ if s.ok else None, i, w)


    def flist(s):
        out = []

        def go(f, d, w):
            if len(out) >= 40:
                return
            out.append((f.n, f.v, f.vo, f.pl, d, w))
            if f.cause:
                go(f.cause, d + 1, 1)
            for b in f.ben:
                go(b, d + 1, 2)
        if s.latest:
            go(s.latest, 0, 0)
        return out


    def failures(s):
        return len(s.flist()) if s.ok else STATE


    def failure(s, i, w):
        if not s.ok:
            return STATE
        l = s.flist()
        if not 0 <= i < len(l) or not 0 <= w <= 5:
            return BAD
        return l[i][w]


    def ring_at(s, i):
        if not s.ok:
            return STATE
        return s.ring_[i] if 0 <= i < len(s.ring_) else NONE


    def count(s, w):
        if not s.ok:
            return STATE
        if not 0 <= w <= 4:
            return BAD
        return [len(s.bodies), len(s.voices), s.alive(), s.steps, int(s.spent)][w]


    def digest(s):
        if not s.ok:
            return 0
        h = 17

        def mix(x):
            nonlocal h
            h = 31 * h + x & 18446744073709551615
        for v in s.voices:
            for w in range(7):
                mix(s.told(v.num, w))
            for fr in reversed(v.frames):
                for n in fr.names:
                    mix(fr.vars[n])
        for a, b in s.lines_[:300]:
            mix(a)
            mix(b)
        for a, b in s.hand_[:300]:
            mix(a)
            mix(b)
        mix(s.steps)
        return h - (1 << 64) if h >> 63 else h
