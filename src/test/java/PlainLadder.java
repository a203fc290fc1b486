import java.util.ArrayList;
import java.util.List;

/**
 * The document's words taken one by one, in the slowest and plainest form: what the class answers
 * is held against this. It shares no code with the class. Answers of element that are exceptions
 * are NO_SHELF and NO_STATE.
 */
final class PlainLadder {
    static final long NO_SHELF = -1000001;
    static final long NO_STATE = -1000002;

    private static final class Law {
        int kind;
        int office;
        int n;
        int from;
        int to;
    }

    private static final class Life {
        int order;
        int first;
        int last;
        int father;
        int death = 200;
        int from = 0;
        int to = -1;
    }

    private final List<Integer> seats = new ArrayList<>();
    private final List<Boolean> free = new ArrayList<>();
    private final List<Life> people = new ArrayList<>();
    private final List<Law> laws = new ArrayList<>();
    private final int[][][] holder = new int[8][200][3];
    private final boolean[][][] isVoid = new boolean[8][200][3];
    private int c = 2;
    private int s = 1;
    private int[] votes = new int[35];
    private final Object[] shelf = new Object[8];
    private final int[] shelfLaw = new int[8];

    PlainLadder() {
        for (int[][] years : holder) {
            for (int[] row : years) {
                java.util.Arrays.fill(row, -1);
            }
        }
    }

    private boolean isOffice(int o) {
        return 0 <= o && o < seats.size();
    }

    private boolean isPerson(int p) {
        return 0 <= p && p < people.size();
    }

    private static boolean isYear(int y) {
        return 0 <= y && y <= 199;
    }

    private boolean isSeat(int o, int y, int seat) {
        return isOffice(o) && isYear(y) && 0 <= seat && seat < seats.get(o);
    }

    int office(int n, boolean isFree) {
        if (n < 1 || n > 3) {
            return -1;
        }
        if (seats.size() == 8) {
            return -2;
        }
        seats.add(n);
        free.add(isFree);
        return seats.size() - 1;
    }

    int person(int order, int first, int last, int father) {
        if (order < 0 || order > 1 || first < -50 || last > 199 || first > last) {
            return -1;
        }
        if (father < -1 || father >= people.size()) {
            return -1;
        }
        if (people.size() == 24) {
            return -2;
        }
        Life life = new Life();
        life.order = order;
        life.first = first;
        life.last = last;
        life.father = father;
        people.add(life);
        return people.size() - 1;
    }

    int death(int p, int year) {
        if (!isPerson(p) || year < 0 || year > 200) {
            return -1;
        }
        int was = people.get(p).death;
        people.get(p).death = year;
        return was;
    }

    int exile(int p, int from, int to) {
        if (!isPerson(p) || !isYear(from) || !isYear(to)) {
            return -1;
        }
        Life life = people.get(p);
        int was = life.from <= life.to ? 1 : 0;
        if (from > to) {
            life.from = 0;
            life.to = -1;
        } else {
            life.from = from;
            life.to = to;
        }
        return was;
    }

    int birth(int p, int first, int last) {
        if (!isPerson(p) || first < -50 || last > 199 || first > last) {
            return -1;
        }
        Life life = people.get(p);
        int other = life.first != first || life.last != last ? 1 : 0;
        life.first = first;
        life.last = last;
        return other;
    }

    int law(int told, int n, int from, int to) {
        if (told < 0 || told >= 60) {
            return -1;
        }
        Law law = new Law();
        law.kind = told / 10;
        law.office = told % 10 - 1;
        law.n = n;
        law.from = from;
        law.to = to;
        if (law.office != -1 && !isOffice(law.office)) {
            return -1;
        }
        if (!isYear(from) || to <= from || to > 200) {
            return -1;
        }
        boolean right = true;
        if (law.kind == 0) {
            right = 0 <= n && n <= 99;
        } else if (law.kind == 1) {
            right = isOffice(n);
        } else if (law.kind == 2 || law.kind == 3) {
            right = 1 <= n && n <= 99;
        } else if (law.kind == 4) {
            right = n == 0 || n == 1;
        }
        if (!right) {
            return -1;
        }
        if (laws.size() == 20) {
            return -2;
        }
        laws.add(law);
        return laws.size() - 1;
    }

    int repeal(int l, int year) {
        if (l < 0 || l >= laws.size() || year <= laws.get(l).from || year > laws.get(l).to) {
            return -1;
        }
        int was = laws.get(l).to;
        laws.get(l).to = year;
        return was;
    }

    int stone(int p, int o, int y) {
        if (!isPerson(p) || !isOffice(o) || !isYear(y)) {
            return -1;
        }
        if (holds(p, y) != -2) {
            return -3;
        }
        for (int seat = 0; seat < seats.get(o); seat++) {
            if (holder[o][y][seat] == -1) {
                holder[o][y][seat] = p;
                return seat;
            }
        }
        return -3;
    }

    int empty(int o, int y, int seat) {
        if (!isSeat(o, y, seat)) {
            return -1;
        }
        int was = holder[o][y][seat];
        if (was == -1) {
            return -3;
        }
        holder[o][y][seat] = -1;
        isVoid[o][y][seat] = false;
        return was;
    }

    int annul(int o, int y, int seat, boolean is) {
        if (!isSeat(o, y, seat)) {
            return -1;
        }
        if (holder[o][y][seat] == -1) {
            return -3;
        }
        boolean was = isVoid[o][y][seat];
        isVoid[o][y][seat] = is;
        return was != is ? 1 : 0;
    }

    int seat(int o, int y, int seat) {
        if (!isSeat(o, y, seat)) {
            return -1;
        }
        if (holder[o][y][seat] == -1) {
            return -2;
        }
        return holder[o][y][seat] + (isVoid[o][y][seat] ? 100 : 0);
    }

    int holds(int p, int y) {
        if (!isPerson(p) || !isYear(y)) {
            return -1;
        }
        for (int o = 0; o < seats.size(); o++) {
            for (int seat = 0; seat < seats.get(o); seat++) {
                if (holder[o][y][seat] == p) {
                    return o;
                }
            }
        }
        return -2;
    }

    /** HELD, HOLDS by laws: VOID ones left out. */
    private boolean heldIn(int p, int o, int y) {
        for (int seat = 0; seat < seats.get(o); seat++) {
            if (holder[o][y][seat] == p && !isVoid[o][y][seat]) {
                return true;
            }
        }
        return false;
    }

    private boolean heldAnyIn(int p, int y) {
        for (int o = 0; o < seats.size(); o++) {
            if (heldIn(p, o, y)) {
                return true;
            }
        }
        return false;
    }

    int held(int p, int o, int year) {
        if (!isPerson(p) || o != -1 && !isOffice(o) || !isYear(year)) {
            return -1;
        }
        int count = 0;
        for (int y = 0; y < year; y++) {
            if (o == -1 ? heldAnyIn(p, y) : heldIn(p, o, y)) {
                count++;
            }
        }
        return count;
    }

    private boolean areKin(int a, int b) {
        int fa = people.get(a).father;
        int fb = people.get(b).father;
        return a != b && (fa == b || fb == a || fa != -1 && fa == fb);
    }

    private boolean keeps(Law law, int birth, int p, int o, int year) {
        switch (law.kind) {
            case 0:
                return year - birth >= law.n;
            case 1:
                for (int y = 0; y < year; y++) {
                    if (heldIn(p, law.n, y)) {
                        return true;
                    }
                }
                return false;
            case 2:
                for (int y = Math.max(0, year - law.n); y < year; y++) {
                    if (heldAnyIn(p, y)) {
                        return false;
                    }
                }
                return true;
            case 3:
                for (int y = Math.max(0, year - law.n); y < year; y++) {
                    if (heldIn(p, o, y)) {
                        return false;
                    }
                }
                return true;
            case 4:
                return people.get(p).order != law.n;
            default:
                for (int q = 0; q < people.size(); q++) {
                    if (areKin(p, q) && heldIn(q, o, year)) {
                        return false;
                    }
                }
                return true;
        }
    }

    private boolean inForce(Law law, int o, int year) {
        return !free.get(o) && (law.office == -1 || law.office == o) && law.from <= year && year < law.to;
    }

    private int bar(int p, int o, int year) {
        Life life = people.get(p);
        if (year >= life.death) {
            return -4;
        }
        if (year < life.first) {
            return -5;
        }
        if (life.from <= year && year <= life.to) {
            return -6;
        }
        if (holds(p, year) != -2) {
            return -7;
        }
        for (int l = 0; l < laws.size(); l++) {
            if (inForce(laws.get(l), o, year)) {
                boolean kept = false;
                for (int b = life.first; b <= life.last && !kept; b++) {
                    kept = keeps(laws.get(l), b, p, o, year);
                    if (laws.get(l).kind != 0) {
                        break;
                    }
                }
                if (!kept) {
                    return l;
                }
            }
        }
        return -2;
    }

    private int level(int p, int o, int year) {
        if (bar(p, o, year) != -2) {
            return 0;
        }
        Life life = people.get(p);
        for (Law law : laws) {
            if (law.kind == 0 && inForce(law, o, year)) {
                for (int b = life.first; b <= life.last; b++) {
                    if (!keeps(law, b, p, o, year)) {
                        return 1;
                    }
                }
            }
        }
        return 2;
    }

    int could(int p, int o, int year, int what) {
        if (!isPerson(p) || !isOffice(o) || !isYear(year) || what < 0 || what > 1) {
            return -1;
        }
        return what == 0 ? level(p, o, year) : bar(p, o, year);
    }

    int first(int p, int o, int year, boolean sure) {
        if (!isPerson(p) || !isOffice(o) || !isYear(year)) {
            return -1;
        }
        for (int y = year; y <= 199; y++) {
            if (level(p, o, y) >= (sure ? 2 : 1)) {
                return y;
            }
        }
        return -2;
    }

    int who(int o, int year, boolean sure) {
        if (!isOffice(o) || !isYear(year)) {
            return -1;
        }
        int count = 0;
        for (int p = 0; p < people.size(); p++) {
            count += level(p, o, year) >= (sure ? 2 : 1) ? 1 : 0;
        }
        return count;
    }

    /** COULD by LISTS without that HOLDING. */
    private boolean couldWithout(int o, int y, int seat) {
        int p = holder[o][y][seat];
        holder[o][y][seat] = -1;
        boolean could = bar(p, o, y) == -2;
        holder[o][y][seat] = p;
        return could;
    }

    private List<Integer> allBreaches() {
        List<Integer> told = new ArrayList<>();
        for (int y = 0; y < 200; y++) {
            for (int o = 0; o < seats.size(); o++) {
                for (int seat = 0; seat < seats.get(o); seat++) {
                    if (holder[o][y][seat] != -1 && !isVoid[o][y][seat] && !couldWithout(o, y, seat)) {
                        told.add(1000 * o + y);
                    }
                }
            }
        }
        return told;
    }

    int breaches() {
        return allBreaches().size();
    }

    int breach(int i) {
        if (i < 0) {
            return -1;
        }
        List<Integer> told = allBreaches();
        return i < told.size() ? told.get(i) : -3;
    }

    private List<int[]> gaps;
    private List<int[]> ways;
    private int tries;
    private boolean spent;

    /** All FILLINGS, or (most = 1) the first one; each way has who goes into each gap. */
    private void lookFor(int year, int most) {
        gaps = new ArrayList<>();
        ways = new ArrayList<>();
        tries = 0;
        spent = false;
        for (int o = 0; o < seats.size(); o++) {
            for (int seat = 0; seat < seats.get(o); seat++) {
                if (holder[o][year][seat] == -1) {
                    gaps.add(new int[] {o, seat});
                }
            }
        }
        goOn(0, year, most, new int[gaps.size()]);
    }

    private void goOn(int k, int year, int most, int[] put) {
        if (k == gaps.size()) {
            for (int[] gap : gaps) {
                if (!couldWithout(gap[0], year, gap[1])) {
                    return;
                }
            }
            ways.add(put.clone());
            return;
        }
        int o = gaps.get(k)[0];
        int seat = gaps.get(k)[1];
        for (int p = 0; p < people.size(); p++) {
            if (k > 0 && gaps.get(k - 1)[0] == o && p <= put[k - 1]) {
                continue;
            }
            if (spent || ways.size() >= most) {
                return;
            }
            tries++;
            if (tries > 20000) {
                spent = true;
                return;
            }
            if (bar(p, o, year) == -2) {
                put[k] = p;
                holder[o][year][seat] = p;
                goOn(k + 1, year, most, put);
                holder[o][year][seat] = -1;
            }
        }
    }

    int fillings(int year) {
        if (!isYear(year)) {
            return -1;
        }
        lookFor(year, Integer.MAX_VALUE);
        return spent ? -8 : ways.size();
    }

    int fill(int year) {
        if (!isYear(year)) {
            return -1;
        }
        lookFor(year, 1);
        if (spent) {
            return -8;
        }
        if (ways.isEmpty()) {
            return -9;
        }
        for (int k = 0; k < gaps.size(); k++) {
            holder[gaps.get(k)[0]][year][gaps.get(k)[1]] = ways.get(0)[k];
        }
        return gaps.size();
    }

    int among(int p, int o, int year) {
        if (!isPerson(p) || !isOffice(o) || !isYear(year)) {
            return -1;
        }
        lookFor(year, Integer.MAX_VALUE);
        if (spent) {
            return -8;
        }
        int count = 0;
        for (int[] way : ways) {
            for (int k = 0; k < way.length; k++) {
                count += way[k] == p && gaps.get(k)[0] == o ? 1 : 0;
            }
        }
        return count;
    }

    private int voted() {
        int count = 0;
        for (int v : votes) {
            count += v != 0 ? 1 : 0;
        }
        return count;
    }

    int election(int candidates, int n) {
        if (candidates < 2 || candidates > 4 || n < 1 || n > 2 || n >= candidates) {
            return -1;
        }
        int was = voted();
        c = candidates;
        s = n;
        votes = new int[35];
        return was;
    }

    int vote(int unit, int bits) {
        if (unit < 0 || unit > 34 || bits < 0 || bits >> c != 0 || Integer.bitCount(bits) != s) {
            return -1;
        }
        int was = votes[unit];
        votes[unit] = bits;
        return was != bits ? 1 : 0;
    }

    private static List<Integer> order(int n, long number) {
        List<Integer> left = new ArrayList<>();
        for (int i = 0; i < n; i++) {
            left.add(i);
        }
        List<Integer> order = new ArrayList<>();
        while (!left.isEmpty()) {
            int many = left.size();
            order.add(left.remove((int) (number % many)));
            number /= many;
        }
        return order;
    }

    /** Votes of one after the first m UNITS of the ORDER. */
    private int votesAfter(List<Integer> order, int m, int candidate) {
        int count = 0;
        for (int k = 0; k < m; k++) {
            count += votes[order.get(k)] >> candidate & 1;
        }
        return count;
    }

    private int cameTo(List<Integer> order, int many, int candidate) {
        for (int m = 0; m <= 35; m++) {
            if (votesAfter(order, m, candidate) == many) {
                return m;
            }
        }
        return 36;
    }

    /** CANDIDATES by votes after m UNITS, who came to them first, lesser. */
    private List<Integer> ranked(List<Integer> order, int m) {
        List<Integer> all = new ArrayList<>();
        for (int i = 0; i < c; i++) {
            all.add(i);
        }
        all.sort((a, b) -> {
            int va = votesAfter(order, m, a);
            int vb = votesAfter(order, m, b);
            if (va != vb) {
                return vb - va;
            }
            int ca = cameTo(order, va, a);
            int cb = cameTo(order, vb, b);
            return ca != cb ? ca - cb : a - b;
        });
        return all;
    }

    /** Those by 18 votes after m UNITS, each with after how many, s at most. */
    private List<int[]> byMajority(List<Integer> order, int m) {
        List<int[]> done = new ArrayList<>();
        for (int k = 1; k <= m; k++) {
            for (int i = 0; i < c; i++) {
                if (votesAfter(order, k, i) == 18 && votesAfter(order, k - 1, i) == 17 && done.size() < s) {
                    done.add(new int[] {i, k});
                }
            }
        }
        return done;
    }

    int elected(long number, int i, int what) {
        if (number < 0 || i < 0 || i >= s || what < 0 || what > 1) {
            return -1;
        }
        List<Integer> order = order(35, number);
        List<int[]> done = byMajority(order, 35);
        for (int candidate : ranked(order, 35)) {
            boolean isIn = false;
            for (int[] one : done) {
                isIn |= one[0] == candidate;
            }
            if (!isIn && done.size() < s) {
                done.add(new int[] {candidate, 35});
            }
        }
        return done.get(i)[what];
    }

    int sure(long number) {
        if (number < 0) {
            return -1;
        }
        List<Integer> order = order(35, number);
        for (int m = 0; m <= 35; m++) {
            List<Integer> rank = ranked(order, m);
            int ahead = votesAfter(order, m, rank.get(s - 1)) - votesAfter(order, m, rank.get(s));
            if (byMajority(order, m).size() == s || ahead >= 35 - m) {
                return m;
            }
        }
        return 35;
    }

    int drawn(int n, long number, int i) {
        if (n < 1 || n > 35 || number < 0 || i < 0 || i >= n) {
            return -1;
        }
        return order(n, number).get(i);
    }

    int province(int o, int y, int seat, int n, long number) {
        if (!isSeat(o, y, seat) || n < 1 || n > 9 || number < 0) {
            return -1;
        }
        if (holder[o][y][seat] == -1) {
            return -3;
        }
        int place = 0;
        for (int k = 0; k < seat; k++) {
            place += holder[o][y][k] != -1 ? 1 : 0;
        }
        return place < n ? order(n, number).get(place) : -2;
    }

    int count(int what) {
        int heldSeats = 0;
        int voidSeats = 0;
        for (int o = 0; o < seats.size(); o++) {
            for (int y = 0; y < 200; y++) {
                for (int seat = 0; seat < seats.get(o); seat++) {
                    heldSeats += holder[o][y][seat] != -1 ? 1 : 0;
                    voidSeats += isVoid[o][y][seat] ? 1 : 0;
                }
            }
        }
        int[] counts = {seats.size(), people.size(), laws.size(), heldSeats, voidSeats, voted()};
        return what >= 0 && what < counts.length ? counts[what] : -1;
    }

    int keep(int d, int what, int k) {
        if (d < 0 || d > 7) {
            return -1;
        }
        if (what == 0) {
            shelf[d] = null;
        } else if (what == 1 && k >= 0 && k < laws.size()) {
            shelf[d] = laws.get(k);
            shelfLaw[d] = k;
        } else if (what == 3 && isOffice(k)) {
            byte[] row = new byte[200];
            for (int y = 0; y < 200; y++) {
                row[y] = (byte) holder[k][y][0];
            }
            shelf[d] = row;
        } else if (what == 4 && isPerson(k)) {
            Life life = people.get(k);
            shelf[d] = new int[] {life.first, life.last, life.death, life.from, life.to};
        } else {
            return -1;
        }
        return 0;
    }

    int make(int d, int what, int n) {
        if (d < 0 || d > 7 || what != 3 && what != 4 || n > 60) {
            return -1;
        }
        if (n < 0) {
            return -14;
        }
        shelf[d] = what == 3 ? new byte[n] : new int[n];
        return 0;
    }

    private static int size(Object row) {
        return row instanceof byte[] b ? b.length : row instanceof int[] a ? a.length : -1;
    }

    long element(int d, int i) {
        if (d < 0 || d > 7) {
            return NO_SHELF;
        }
        if (i < 0 || i >= size(shelf[d])) {
            return NO_STATE;
        }
        return shelf[d] instanceof byte[] b ? b[i] : ((int[]) shelf[d])[i];
    }

    int copy(int d, int i, int e, int j, int n) {
        if (d < 0 || d > 7 || e < 0 || e > 7) {
            return -1;
        }
        if (shelf[d] == null || shelf[e] == null) {
            return -11;
        }
        if (size(shelf[d]) < 0 || shelf[d].getClass() != shelf[e].getClass()) {
            return -12;
        }
        if (n < 0 || i < 0 || j < 0 || (long) i + n > size(shelf[d]) || (long) j + n > size(shelf[e])) {
            return -13;
        }
        System.arraycopy(shelf[d], i, shelf[e], j, n);
        return n;
    }

    int weight(int d) {
        if (d < 0 || d > 7) {
            return -1;
        }
        if (shelf[d] == null) {
            return -11;
        }
        if (!(shelf[d] instanceof Law law)) {
            return -12;
        }
        switch (law.kind) {
            case 0:
                return 110 + law.n;
            case 1:
                return 1111 + law.n;
            case 2:
                return 2 * (1112 + law.n);
            case 3:
                return 2 * (1113 + law.n);
            case 4:
                return 114 + law.n;
            default:
                return 1015;
        }
    }

    int toss(int d) {
        int weight = weight(d);
        if (weight < 0) {
            return weight;
        }
        int kind = ((Law) shelf[d]).kind;
        return kind == 0 || kind == 4 ? -15 : shelfLaw[d];
    }
}
