/** Promises 20 to 22: fillings, fill, among. */
public final class FillingsTest {
    public static void main(String[] args) {
        twoOffices();
        voidAndHeldSeats();
        kin();
        greaterNumbers();
        spentAtTheEdge();
        firstAheadOfSpent();
        spentWithoutOne();
        noFilling();
        wrongInputs();
        Due.end();
    }

    private static OfficeLadder republic(int people, int... seats) {
        OfficeLadder x = new OfficeLadder();
        for (int n : seats) {
            x.office(n, false);
        }
        for (int p = 0; p < people; p++) {
            x.person(0, 0, 0, -1);
        }
        return x;
    }

    private static void twoOffices() {
        OfficeLadder x = republic(4, 2, 1);
        Due.is("fillings", x.fillings(60), 12);
        Due.is("among", x.among(0, 0, 60), 6);
        Due.is("among", x.among(3, 1, 60), 3);
        Due.is("nothing was put in", x.count(3), 0);
        Due.is("fill", x.fill(60), 3);
        Due.is("seat", x.seat(0, 60, 0), 0);
        Due.is("seat", x.seat(0, 60, 1), 1);
        Due.is("seat", x.seat(1, 60, 0), 2);
        Due.is("held in all", x.count(3), 3);
        Due.is("holds", x.holds(2, 60), 1);
        Due.is("one way to put in none", x.fillings(60), 1);
        Due.is("in which no one is put in", x.among(0, 0, 60), 0);
        Due.is("fill", x.fill(60), 0);
        Due.is("other years", x.fillings(61), 12);
        x.law(20, 1, 0, 200);
        Due.is("other years bind", x.fillings(61), 0);
        Due.is("earlier ones are not bound", x.fillings(60), 1);
        Due.is("earlier ones are not bound", x.fillings(59), 12);
    }

    private static void voidAndHeldSeats() {
        OfficeLadder x = republic(4, 2, 1);
        x.stone(2, 0, 60);
        x.annul(0, 60, 0, true);
        Due.is("a void one has the seat", x.fillings(60), 6);
        Due.is("and isn't put in", x.among(2, 0, 60), 0);
        Due.is("nor elsewhere", x.among(2, 1, 60), 0);
        Due.is("fill", x.fill(60), 2);
        Due.is("seat", x.seat(0, 60, 0), 102);
        Due.is("a lesser one behind one held", x.seat(0, 60, 1), 0);
        Due.is("seat", x.seat(1, 60, 0), 1);
        Due.is("void ones", x.count(4), 1);
        x.empty(0, 60, 1);
        Due.is("a gap", x.among(3, 0, 60), 1);
        Due.is("a gap", x.fillings(60), 2);
    }

    private static void kin() {
        OfficeLadder x = new OfficeLadder();
        x.office(2, false);
        x.office(2, true);
        x.person(0, 0, 0, -1);
        x.person(0, 0, 0, 0);
        x.person(0, 0, 0, 0);
        x.person(0, 0, 0, -1);
        Due.is("without a law", x.fillings(5), 6);
        x.law(50, 0, 5, 6);
        Due.is("with it", x.fillings(5), 3);
        Due.is("a year on", x.fillings(6), 6);
        Due.is("the one without kin", x.among(3, 0, 5), 3);
        Due.is("one with kin", x.among(1, 0, 5), 1);
        x.stone(1, 0, 5);
        Due.is("kin of one that holds", x.among(2, 0, 5), 0);
        Due.is("fillings", x.fillings(5), 1);
        x.annul(0, 5, 0, true);
        Due.is("void ones don't bar", x.fillings(5), 3);
    }

    private static void greaterNumbers() {
        OfficeLadder x = republic(4, 3);
        Due.is("three of four", x.fillings(9), 4);
        x.death(0, 9);
        Due.is("of three", x.fillings(9), 1);
        Due.is("fill", x.fill(9), 3);
        for (int s = 0; s < 3; s++) {
            Due.is("seat " + s, x.seat(0, 9, s), s + 1);
        }
        OfficeLadder y = republic(4, 3);
        y.stone(3, 0, 9);
        Due.is("one that holds doesn't count as put in", y.fillings(9), 3);
        y.empty(0, 9, 0);
        y.stone(0, 0, 9);
        y.empty(0, 9, 0);
        y.stone(1, 0, 9);
        y.stone(2, 0, 9);
        y.empty(0, 9, 0);
        Due.is("first and third seat are empty", y.fillings(9), 3);
        Due.is("fill", y.fill(9), 2);
        Due.is("first", y.seat(0, 9, 0), 0);
        Due.is("second", y.seat(0, 9, 1), 2);
        Due.is("third", y.seat(0, 9, 2), 1);
    }

    /** The TRIES of a YEAR, counted as the document tells them, where PEOPLE are as able as any. */
    private static long tries(int[] offices, int people, boolean[] dead) {
        return tries(offices, 0, people, 0, new boolean[people], dead);
    }

    private static long tries(int[] offices, int slot, int people, int start, boolean[] used, boolean[] dead) {
        if (slot == offices.length) {
            return 0;
        }
        long count = 0;
        for (int p = start; p < people; p++) {
            count++;
            if (!used[p] && !dead[p]) {
                used[p] = true;
                boolean same = slot + 1 < offices.length && offices[slot + 1] == offices[slot];
                count += tries(offices, slot + 1, people, same ? p + 1 : 0, used, dead);
                used[p] = false;
            }
        }
        return count;
    }

    /** Looks for YEARS with TRIES just at the limit, and just above it. */
    private static void spentAtTheEdge() {
        // 19 people, three single offices: 19 + 19 * 19 + 19 * 18 * 19 TRIES.
        Due.is("19 people", tries(new int[] {0, 1, 2}, 19, new boolean[19]), 6878);
        OfficeLadder x = republic(19, 1, 1, 1);
        Due.is("19 people", x.fillings(3), 19 * 18 * 17);
        int at = 0;
        int above = 0;
        for (int people = 1; people <= 24; people++) {
            for (int dead = 0; dead <= people; dead++) {
                for (int shape = 0; shape < SHAPES.length; shape++) {
                    boolean[] isDead = new boolean[people];
                    java.util.Arrays.fill(isDead, people - dead, people, true);
                    int alive = people - dead;
                    if (alive > 13 && SHAPES[shape].length > 4) {
                        continue;
                    }
                    long tries = tries(SHAPES[shape], people, isDead);
                    if (tries > 19000 && tries < 21500) {
                        at += tries <= 20000 ? 1 : 0;
                        above += tries > 20000 ? 1 : 0;
                        edge(shape, people, dead, tries > 20000);
                    }
                }
            }
        }
        Due.isTrue("some at the limit: " + at + ", some above it: " + above, at > 2 && above > 2);
        exactly20000();
    }

    private static final int[][] SHAPES = {
        {0, 1, 2}, {0, 0, 1, 1}, {0, 0, 0, 1}, {0, 1, 2, 3}, {0, 0, 1, 2}, {0, 1, 1, 2}, {0, 0, 0, 1, 1},
        {0, 0, 0, 1, 1, 1}, {0, 1, 2, 2, 2}, {0, 0, 0, 1, 2},
    };

    private static void edge(int shape, int people, int dead, boolean spent) {
        int[] offices = SHAPES[shape];
        OfficeLadder x = new OfficeLadder();
        for (int o = 0; o <= offices[offices.length - 1]; o++) {
            int seats = 0;
            for (int of : offices) {
                seats += of == o ? 1 : 0;
            }
            x.office(seats, false);
        }
        for (int p = 0; p < people; p++) {
            x.person(0, 0, 0, -1);
        }
        for (int p = people - dead; p < people; p++) {
            x.death(p, 0);
        }
        String told = "shape " + shape + ", " + people + " people, " + dead + " dead: spent";
        Due.is(told, x.fillings(3) == -8 ? 1 : 0, spent ? 1 : 0);
        Due.is(told, x.among(0, 0, 3) == -8 ? 1 : 0, spent ? 1 : 0);
    }

    /** Births and AGE laws that were looked for till the TRIES came to the very limit, or one more. */
    private static void exactly20000() {
        int[] some = {3, 0, 1, 2, 6, 9, 9, 2, 6, 2, 9, 5, 2, 4, 4, 4, 0, 9, 8};
        OfficeLadder x = byBirths(some, new int[] {3, 3, 1}, new int[] {3, 3, 8});
        Due.is("20000 TRIES, fillings", x.fillings(50), 5040);
        Due.is("20000 TRIES, fill", x.fill(50), 7);
        int[] none = {2, 4, 3, 8, 1, 0, 1, 7};
        x = byBirths(none, new int[] {3, 3, 1, 3, 3}, new int[] {9, 8, 9, 8, -1});
        Due.is("20000 TRIES, no filling", x.fillings(50), 0);
        Due.is("20000 TRIES, nothing to fill in", x.fill(50), -9);
        Due.is("20000 TRIES, among none", x.among(0, 0, 50), 0);
        int[] more = {7, 1, 1, 4, 2, 2, 6, 8, 6, 4, 0, 6, 4, 9, 8, 1};
        x = byBirths(more, new int[] {1, 3, 2}, new int[] {6, 3, 9});
        Due.is("20001 TRIES, fillings", x.fillings(50), -8);
        Due.is("20001 TRIES, among", x.among(0, 0, 50), -8);
        int[] noneOfMore = {0, 8, 0, 0, 9, 7, 9, 1, 6, 7, 4, 8, 2, 1, 1, 4, 5, 1, 9, 8, 2, 8};
        x = byBirths(noneOfMore, new int[] {2, 2, 1, 1}, new int[] {0, 5, 2, -1});
        Due.is("20001 TRIES, no filling", x.fillings(50), -8);
        Due.is("20001 TRIES, fill", x.fill(50), -8);
        Due.is("20001 TRIES, nothing was put in", x.count(3), 0);
    }

    /** Offices whose able people in the year 50 are those born up to a year each. */
    private static OfficeLadder byBirths(int[] births, int[] seats, int[] bornUpTo) {
        OfficeLadder x = republic(0, seats);
        for (int birth : births) {
            x.person(0, birth, birth, -1);
        }
        for (int o = 0; o < seats.length; o++) {
            x.law(1 + o, 50 - bornUpTo[o], 0, 200);
        }
        return x;
    }

    /** fill looks for the first FILLING only: it may be found where all can't be counted. */
    private static void firstAheadOfSpent() {
        OfficeLadder x = republic(24, 3, 3, 3);
        Due.is("fillings", x.fillings(7), -8);
        Due.is("among", x.among(0, 0, 7), -8);
        Due.is("nothing was put in", x.count(3), 0);
        Due.is("fill", x.fill(7), 9);
        Due.is("the last one", x.seat(2, 7, 2), 8);
        Due.is("one left", x.fillings(7), 1);
    }

    private static void spentWithoutOne() {
        OfficeLadder x = republic(20, 3, 3, 1);
        x.law(43, 0, 0, 200);
        Due.is("fillings", x.fillings(7), -8);
        Due.is("fill", x.fill(7), -8);
        Due.is("among", x.among(3, 1, 7), -8);
        Due.is("nothing was put in", x.count(3), 0);
    }

    private static void noFilling() {
        OfficeLadder x = republic(2, 3);
        Due.is("too few people", x.fillings(0), 0);
        Due.is("fill", x.fill(0), -9);
        Due.is("among", x.among(0, 0, 0), 0);
        Due.is("nothing was put in", x.count(3), 0);
        OfficeLadder y = republic(0, 1);
        Due.is("no people", y.fillings(0), 0);
        Due.is("no people", y.fill(0), -9);
        OfficeLadder z = republic(3);
        Due.is("no offices", z.fillings(0), 1);
        Due.is("no offices", z.fill(0), 0);
    }

    private static void wrongInputs() {
        OfficeLadder x = republic(2, 1);
        for (int bad : new int[] {-1, 200, Integer.MIN_VALUE, Integer.MAX_VALUE}) {
            Due.is("fillings, year " + bad, x.fillings(bad), -1);
            Due.is("fill, year " + bad, x.fill(bad), -1);
            Due.is("among, year " + bad, x.among(0, 0, bad), -1);
        }
        Due.is("among, person 2", x.among(2, 0, 0), -1);
        Due.is("among, person -1", x.among(-1, 0, 0), -1);
        Due.is("among, office 1", x.among(0, 1, 0), -1);
        Due.is("among, office -1", x.among(0, -1, 0), -1);
        Due.is("year 0", x.fillings(0), 2);
        Due.is("year 199", x.fillings(199), 2);
    }
}
