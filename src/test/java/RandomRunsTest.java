import java.util.Random;

/**
 * Runs of 512 calls of all kinds with numbers from a fixed seed: every answer is held against
 * PlainLadder, and nothing but what the document names may be thrown.
 */
public final class RandomRunsTest {
    private static final int RUNS = 160;
    private static final int CALLS = 512;

    private final Random random;
    private final OfficeLadder x = new OfficeLadder();
    private final PlainLadder y = new PlainLadder();
    /** How often a number is any number: of 100. */
    private final int wild;
    private final int[] focus = new int[4];
    private String call = "";

    private RandomRunsTest(long seed) {
        random = new Random(seed);
        wild = seed % 4 == 0 ? 15 : 1;
        for (int k = 0; k < focus.length; k++) {
            focus[k] = random.nextInt(200);
        }
    }

    public static void main(String[] args) {
        for (long seed = 1; seed <= RUNS; seed++) {
            new RandomRunsTest(seed).run(seed);
        }
        Due.end();
    }

    private void run(long seed) {
        int shape = (int) (seed % 8);
        for (int k = 0; k < CALLS; k++) {
            int kind = k < 10 + 3 * shape ? random.nextInt(8) : pick(shape);
            try {
                long[] answers = ask(kind);
                Due.is("run " + seed + ", call " + k + ": " + call, answers[0], answers[1]);
            } catch (RuntimeException e) {
                Due.isTrue("run " + seed + ", call " + k + ": " + call + " threw " + e, false);
            }
        }
    }

    private int pick(int shape) {
        if (shape < 4) {
            return random.nextInt(35);
        }
        if (shape < 6) {
            return 4 + random.nextInt(18);
        }
        return shape == 6 ? 22 + random.nextInt(6) : 28 + random.nextInt(7);
    }

    private int in(int from, int to) {
        if (random.nextInt(100) < wild) {
            int[] far = {Integer.MIN_VALUE, Integer.MAX_VALUE, -1, from - 1, to + 1, -2, random.nextInt()};
            return far[random.nextInt(far.length)];
        }
        return from + random.nextInt((int) Math.max(Math.min((long) to - from, 1000), 0) + 1);
    }

    private int year() {
        int near = focus[random.nextInt(focus.length)] + random.nextInt(4);
        return random.nextInt(4) == 0 ? in(0, 199) : in(near, near);
    }

    private int person() {
        return in(0, Math.max(0, x.count(1) - 1));
    }

    private int office() {
        return in(0, Math.max(0, x.count(0) - 1));
    }

    private int shelf() {
        return in(0, 7);
    }

    private long number() {
        switch (random.nextInt(6)) {
            case 0:
                return random.nextInt(40);
            case 1:
                return in(0, 1000000);
            case 2:
                return random.nextInt(20) == 0 ? random.nextLong() : Long.MAX_VALUE - random.nextInt(9);
            default:
                return random.nextLong() >>> 1;
        }
    }

    private String told(String name, long... of) {
        StringBuilder text = new StringBuilder(name).append('(');
        for (int k = 0; k < of.length; k++) {
            text.append(k == 0 ? "" : ", ").append(of[k]);
        }
        return text.append(')').toString();
    }

    private static long[] both(long got, long due) {
        return new long[] {got, due};
    }

    private long[] ask(int kind) {
        if (kind < 8) {
            return askLives(kind);
        }
        if (kind < 13) {
            return askLists(kind);
        }
        return kind < 22 ? askLaws(kind) : kind < 28 ? askElections(kind) : askShelves(kind);
    }

    private long[] askLives(int kind) {
        int p = person();
        int a = in(-50, 120);
        int b = in(a, Math.min(199, a + 30));
        boolean flag = random.nextInt(4) == 0;
        switch (kind) {
            case 0: {
                int n = in(1, 3);
                call = told("office", n, flag ? 1 : 0);
                return both(x.office(n, flag), y.office(n, flag));
            }
            case 1:
            case 2:
            case 3: {
                int order = in(0, 1);
                int father = random.nextInt(2) == 0 ? -1 : p;
                call = told("person", order, a, b, father);
                return both(x.person(order, a, b, father), y.person(order, a, b, father));
            }
            case 4: {
                int when = random.nextInt(3) == 0 ? 200 : in(0, 200);
                call = told("death", p, when);
                return both(x.death(p, when), y.death(p, when));
            }
            case 5: {
                int from = year();
                int to = from + in(-1, 3);
                call = told("exile", p, from, to);
                return both(x.exile(p, from, to), y.exile(p, from, to));
            }
            case 6:
                call = told("birth", p, a, b);
                return both(x.birth(p, a, b), y.birth(p, a, b));
            default:
                return askLaw();
        }
    }

    private long[] askLaw() {
        if (random.nextInt(3) == 0) {
            int l = in(0, Math.max(0, x.count(2) - 1));
            int when = random.nextBoolean() ? year() : in(0, 200);
            call = told("repeal", l, when);
            return both(x.repeal(l, when), y.repeal(l, when));
        }
        int of = in(0, x.count(0));
        int kind = in(0, 5);
        int n = kind == 0 ? in(0, 60) : kind == 1 ? office() : kind == 4 ? in(0, 1) : in(1, 5);
        int from = random.nextInt(3) == 0 ? in(0, 199) : 0;
        int to = random.nextInt(3) == 0 ? in(0, 200) : 200;
        call = told("law", 10 * kind + of, n, from, to);
        return both(x.law(10 * kind + of, n, from, to), y.law(10 * kind + of, n, from, to));
    }

    private long[] askLists(int kind) {
        int p = person();
        int o = office();
        int when = year();
        int seat = in(0, 1);
        boolean flag = random.nextInt(3) != 0;
        switch (kind) {
            case 8:
            case 9:
                call = told("stone", p, o, when);
                return both(x.stone(p, o, when), y.stone(p, o, when));
            case 10:
                if (random.nextInt(3) == 0) {
                    call = told("empty", o, when, seat);
                    return both(x.empty(o, when, seat), y.empty(o, when, seat));
                }
                call = told("annul", o, when, seat, flag ? 1 : 0);
                return both(x.annul(o, when, seat, flag), y.annul(o, when, seat, flag));
            case 11:
                call = told("seat", o, when, seat);
                return both(x.seat(o, when, seat), y.seat(o, when, seat));
            default:
                if (flag) {
                    int any = random.nextBoolean() ? -1 : o;
                    call = told("held", p, any, when);
                    return both(x.held(p, any, when), y.held(p, any, when));
                }
                call = told("holds", p, when);
                return both(x.holds(p, when), y.holds(p, when));
        }
    }

    private long[] askLaws(int kind) {
        int p = person();
        int o = office();
        int when = year();
        boolean flag = random.nextBoolean();
        switch (kind) {
            case 13:
            case 14: {
                int what = in(0, 1);
                call = told("could", p, o, when, what);
                return both(x.could(p, o, when, what), y.could(p, o, when, what));
            }
            case 15:
                call = told("first", p, o, when, flag ? 1 : 0);
                return both(x.first(p, o, when, flag), y.first(p, o, when, flag));
            case 16:
                call = told("who", o, when, flag ? 1 : 0);
                return both(x.who(o, when, flag), y.who(o, when, flag));
            case 17:
                call = told("breaches");
                return both(x.breaches(), y.breaches());
            case 18: {
                int i = in(0, 8);
                call = told("breach", i);
                return both(x.breach(i), y.breach(i));
            }
            case 19:
                call = told("fillings", when);
                return both(x.fillings(when), y.fillings(when));
            case 20:
                call = told("among", p, o, when);
                return both(x.among(p, o, when), y.among(p, o, when));
            default:
                if (random.nextInt(3) != 0) {
                    return both(0, 0);
                }
                call = told("fill", when);
                return both(x.fill(when), y.fill(when));
        }
    }

    private long[] askElections(int kind) {
        long number = number();
        int i = in(0, 1);
        int what = in(0, 1);
        switch (kind) {
            case 22:
                if (random.nextInt(8) == 0) {
                    int c = in(2, 4);
                    int s = in(1, 2);
                    call = told("election", c, s);
                    return both(x.election(c, s), y.election(c, s));
                }
                return askVotes();
            case 23:
                return askVotes();
            case 24:
                call = told("elected", number, i, what);
                return both(x.elected(number, i, what), y.elected(number, i, what));
            case 25:
                call = told("sure", number);
                return both(x.sure(number), y.sure(number));
            case 26: {
                int n = in(1, 35);
                int place = in(0, Math.max(n - 1, 0) % 35);
                call = told("drawn", n, number, place);
                return both(x.drawn(n, number, place), y.drawn(n, number, place));
            }
            default: {
                int o = office();
                int when = year();
                int seat = in(0, 2);
                int n = in(1, 9);
                call = told("province", o, when, seat, n, number);
                return both(x.province(o, when, seat, n, number), y.province(o, when, seat, n, number));
            }
        }
    }

    /** Votes of many UNITS at once, so that some come to 18. */
    private long[] askVotes() {
        int favourite = random.nextInt(16);
        long got = 0;
        long due = 0;
        for (int k = 0; k < 3; k++) {
            int unit = in(0, 34);
            int bits = random.nextInt(3) == 0 ? favourite : in(0, 15);
            call = told("vote", unit, bits);
            got = 4 * got + x.vote(unit, bits);
            due = 4 * due + y.vote(unit, bits);
        }
        return both(got, due);
    }

    private long[] askShelves(int kind) {
        int d = shelf();
        int e = shelf();
        int k = in(0, 7);
        switch (kind) {
            case 28: {
                int what = in(0, 5);
                call = told("count", what);
                return both(x.count(what), y.count(what));
            }
            case 29: {
                int what = in(0, 4);
                call = told("keep", d, what, k);
                return both(x.keep(d, what, k), y.keep(d, what, k));
            }
            case 30: {
                int what = in(3, 4);
                int n = in(-1, 61);
                call = told("make", d, what, n);
                return both(x.make(d, what, n), y.make(d, what, n));
            }
            case 31: {
                int i = random.nextBoolean() ? in(0, 5) : in(-1, 201);
                call = told("element", d, i);
                return both(elementOrThrown(d, i), y.element(d, i));
            }
            case 32: {
                int i = in(-1, 6);
                int j = in(-1, 6);
                int n = in(-1, 30);
                call = told("copy", d, i, e, j, n);
                return both(x.copy(d, i, e, j, n), y.copy(d, i, e, j, n));
            }
            case 33:
                call = told("weight", d);
                return both(x.weight(d), y.weight(d));
            default:
                call = told("toss", d);
                return both(x.toss(d), y.toss(d));
        }
    }

    private long elementOrThrown(int d, int i) {
        try {
            return x.element(d, i);
        } catch (IllegalArgumentException e) {
            return PlainLadder.NO_SHELF;
        } catch (IllegalStateException e) {
            return PlainLadder.NO_STATE;
        }
    }
}
