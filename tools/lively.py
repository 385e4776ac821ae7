"""Stories in which voices meet: each begins with voices of its own, and mostly speaks to those."""


class Lively:

    def __init__(self, r):
        self.r = r
        self.order = []

    def prog(self):
        r = self.r
        self.scripts = ['s' + c for c in 'abcd'[:r.randint(2, 4)]]
        self.procedures = [('p' + c, r.randint(0, 3)) for c in 'ab'[:r.randint(0, 2)]]
        heads = [('s', name) for name in self.scripts] + [('d', head) for head in self.procedures]
        r.shuffle(heads)
        self.order = heads
        self.loops = 0
        return ' '.join(self.script(head) if kind == 's' else self.procedure(*head) for kind, head in heads)

    def script(self, name):
        """Its argument d tells how deep voices may make voices."""
        self.voices = ['x', 'y', 'x', 'y', 'me', 'd']
        second = 'new %s(d-1)' % self.r.choice(self.scripts) if self.r.random() < 0.6 else 'x'
        make = 'if(0<d){x=new %s(d-1);y=%s;}' % (self.r.choice(self.scripts), second)
        return 'voice %s(d){z=0;%s%s' % (name, make, self.block(3, 6)[1:])

    def procedure(self, name, count):
        names = ['x', 'y', 'd']
        self.voices = names[:count] + ['me', '1', '2', '3']
        others = ''.join('%s=%d;' % (v, self.r.randint(1, 5)) for v in names[count:])
        return 'do %s(%s){%sz=0;%s' % (name, ','.join(names[:count]), others, self.block(2, 4)[1:])

    def one_of(self, table):
        """The part of the first row whose bound the next random number is below."""
        k = self.r.random()
        for bound, part in table:
            if k < bound:
                return part()
        return table[-1][1]()

    def voice(self):
        return self.one_of([
            (0.8, lambda: self.r.choice(self.voices)),
            (0.93, lambda: str(self.r.randint(0, 8))),
            (1, lambda: 'new %s(%s)' % (self.r.choice(self.scripts), self.r.choice('012')))])

    def plain(self):
        return self.r.choice(['z', 'd', 'z', self.r.choice(['0', '1', '2', '3', '5', '7', '999999999'])])

    def unary(self, depth):
        if depth <= 0:
            return self.plain()
        less = depth - 1
        return self.one_of([
            (0.4, self.plain),
            (0.55, lambda: 'yield ' + self.unary(less)),
            (0.72, lambda: 'resume %s with %s' % (self.voice(), self.unary(less))),
            (0.78, lambda: 'hand %s with %s' % (self.voice(), self.unary(less))),
            (0.84, lambda: 'inject %d into %s with %s' % (self.r.randint(0, 4), self.voice(), self.unary(less))),
            (0.88, lambda: 'state ' + self.voice()),
            (0.91, lambda: '-' + self.unary(less)),
            (0.93, lambda: '!' + self.unary(less)),
            (0.95, lambda: '(%s)' % self.value(less)),
            (1, self.call)])

    def call(self):
        if not self.procedures:
            return 'z'
        name, count = self.r.choice(self.procedures)
        return '%s(%s)' % (name, ','.join(self.r.choice(self.voices + ['z']) for _ in range(count)))

    def value(self, depth=1):
        text = self.unary(depth)
        while self.r.random() < 0.25:
            text += self.r.choice('+-*/%') + self.unary(depth - 1)
        if self.r.random() < 0.1:
            text += self.r.choice(['<', '==']) + self.unary(depth - 1)
        return text

    def block(self, depth, most):
        return '{' + ''.join(self.statement(depth) for _ in range(self.r.randint(1, most))) + '}'

    def statement(self, depth):
        if depth <= 0 or self.r.random() < 0.55:
            return self.simple()
        less = depth - 1
        return self.one_of([
            (0.16, lambda: self.choice(less)),
            (0.34, lambda: self.loop(less)),
            (0.5, lambda: 'each z of %s%s' % (self.voice(), self.block(less, 3))),
            (1, lambda: self.guard(less))])

    def simple(self):
        r = self.r
        return self.one_of([
            (0.18, lambda: 'tell %s;' % self.value()),
            (0.4, lambda: 'z=%s;' % self.value()),
            (0.55, lambda: 'yield %s;' % self.unary(1)),
            (0.69, lambda: 'z=resume %s with %s;' % (self.voice(), self.plain())),
            (0.77, lambda: 'close %s;' % self.voice()),
            (0.82, lambda: 'throw %d %s;' % (r.choice([0, 1, 2, 3, 9]), self.plain())),
            (0.86, lambda: 'return %s;' % self.unary(1)),
            (0.91, lambda: '%s=new %s(%s);' % (r.choice('xy'), r.choice(self.scripts), r.choice(['d-1', '0', '1']))),
            (0.95, lambda: '%s=%s;' % (r.choice('xy'), r.choice(['0', 'me', 'z', 'y', 'x']))),
            (1, lambda: self.value(2) + ';')])

    def choice(self, depth):
        other = 'else' + self.block(depth, 2) if self.r.random() < 0.5 else ''
        return 'if(%s)%s%s' % (self.value(), self.block(depth, 2), other)

    def loop(self, depth):
        count = 'ij'[self.loops % 2]
        self.loops += 1
        head = '%s=0;while(%s<%d){%s=%s+1;' % (count, count, self.r.randint(1, 4), count, count)
        return head + self.block(depth, 3)[1:]

    def guard(self, depth):
        numbers = ['', '', '', '1', '2', '3', '10', '11', '14']
        text = 'try' + self.block(depth, 3)
        catches = 0
        while self.r.random() < 0.6 and catches < 2:
            text += 'catch %s %s%s' % (self.r.choice(numbers), self.r.choice('zzze'), self.block(depth, 2))
            catches += 1
        if catches == 0 or self.r.random() < 0.6:
            text += 'finally' + self.block(depth, 2)
        return text
