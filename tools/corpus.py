"""Writes runs of calls with the answers of the model, as the files of src/test/data have them."""
import random, sys
from lively import Lively
from model import World
from stories import Stories, faulty


def emit(out, w, name, *args):
    call = w.ring_at if name == 'ring' else getattr(w, name)
    out.append(' '.join([name] + [str(a) for a in args] + ['=', str(call(*args))]))


def emit_text(out, w, text):
    out.append('text ' + text)
    w.tape = text.encode()
    emit(out, w, 'compile')


def desk_call(out, w, r, scripts):
    k = r.random()
    alive = [v.num for v in w.voices if v.state < 4]
    some = r.choice(alive) if alive and r.random() < 0.9 else r.randint(0, len(w.voices) + 1)
    if k < 0.25 or not alive:
        emit(out, w, 'voice', r.choice(scripts), r.randint(-1, 5))
    elif k < 0.65:
        emit(out, w, 'resume', some, r.randint(-2, 6))
    elif k < 0.8:
        emit(out, w, 'inject', some, r.randint(0, 3), r.randint(-2, 9))
    elif k < 0.9:
        emit(out, w, 'close', some)
    else:
        emit(out, w, 'sweep')


def played(seed):
    r = random.Random(seed)
    w = World()
    out = ['new ' + str(seed)]
    lively = 0
    for _ in range(3):
        play_story(out, w, r)
        lively += is_lively(w)
    return out if lively >= 2 else []


def play_story(out, w, r):
    g = Stories(r)
    text = g.prog()
    while not 80 < len(text) < 700:
        text = g.prog()
    emit_text(out, w, text)
    scripts = [i for i, (k, _) in enumerate(g.order) if k == 's']
    for _ in range(r.randint(8, 24)):
        desk_call(out, w, r, scripts)
        emit(out, w, 'digest')
    emit(out, w, 'answer')
    emit(out, w, 'failures')
    for i in range(min(3, w.failures())):
        for what in range(6):
            emit(out, w, 'failure', i, what)
    for i in range(3):
        emit(out, w, 'ring', i)
    for v in range(1, len(w.voices) + 1):
        emit(out, w, 'local', v, r.randint(0, 1), r.randint(0, 2))


def is_lively(w):
    voices_to_voices = [p for p in w.hand_ if 0 not in p]
    return len(voices_to_voices) >= 6 and len(w.lines_) >= 3 and w.latest is not None


def refused(seed):
    r = random.Random(seed)
    out = ['new ' + str(seed)]
    w = World()
    text = faulty(r)
    while len(text) > 500 or any(not 32 <= ord(c) < 127 for c in text):
        text = faulty(r)
    emit_text(out, w, text)
    emit(out, w, 'body', 0, 2)
    return out


def met(seed):
    """Three stories of voices that meet, told of behind each call; nothing if they hardly do."""
    r = random.Random('met %d' % seed)
    w = World()
    out = ['new met %d' % seed]
    lively = 0
    for _ in range(3):
        g = Lively(r)
        text = g.prog()
        while len(text) > 1200:
            text = g.prog()
        emit_text(out, w, text)
        scripts = [i for i, (k, _) in enumerate(g.order) if k == 's']
        for _ in range(r.randint(8, 24)):
            desk_call(out, w, r, scripts)
            for name in ['digest', 'answer', 'failures']:
                emit(out, w, name)
            emit(out, w, 'ring', 1)
        emit_what_is_left(out, w, r)
        lively += is_met(w)
    return out if lively >= 2 else []


def is_met(w):
    voices_to_voices = [p for p in w.hand_ if 0 not in p]
    return len(voices_to_voices) >= 6 and (w.failures() > 1 or len(w.ring_) > 1)


def emit_what_is_left(out, w, r):
    for i in range(w.failures()):
        for what in range(6):
            emit(out, w, 'failure', i, what)
    for v in [v.num for v in w.voices if v.state < 4]:
        for call in range(2):
            emit(out, w, 'local', v, call, r.randint(0, 3))


def meetings(first, behind):
    for seed in range(first, behind):
        for row in met(seed):
            print(row)


def main(runs, texts):
    seed = 0
    while runs > 0:
        lively = played(seed)
        if lively:
            print('\n'.join(lively))
            runs -= 1
        seed += 1
    for seed in range(texts):
        print('\n'.join(refused(seed)))


if __name__ == '__main__':
    if sys.argv[1] == 'met':
        meetings(int(sys.argv[2]), int(sys.argv[3]))
    else:
        main(int(sys.argv[1]), int(sys.argv[2]))
