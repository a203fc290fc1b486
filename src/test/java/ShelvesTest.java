/** Promises 29 to 35: count, keep, make, element, copy, weight, toss. */
public final class ShelvesTest {
    private static final String ARGUMENT = "throws.IllegalArgumentException";
    private static final String STATE = "throws.IllegalStateException";
    private static final int MIN = Integer.MIN_VALUE;
    private static final int MAX = Integer.MAX_VALUE;

    public static void main(String[] args) {
        count();
        keep();
        keepIsAPicture();
        make();
        element();
        copy();
        copyEdges();
        weight();
        toss();
        Due.end();
    }

    private static OfficeLadder republic() {
        OfficeLadder x = new OfficeLadder();
        x.office(2, false);
        x.office(1, true);
        x.person(0, -50, 7, -1);
        x.person(1, 3, 9, 0);
        x.law(1, 42, 0, 200);
        return x;
    }

    private static void count() {
        OfficeLadder x = republic();
        x.stone(0, 0, 5);
        x.stone(1, 0, 5);
        x.stone(1, 1, 6);
        x.annul(0, 5, 1, true);
        x.vote(3, 1);
        x.vote(4, 2);
        x.vote(4, 1);
        int[] due = {2, 2, 1, 3, 1, 2};
        for (int what = 0; what < due.length; what++) {
            Due.is("count(" + what + ")", x.count(what), due[what]);
        }
        Due.is("count(-1)", x.count(-1), -1);
        Due.is("count(6)", x.count(6), -1);
        Due.is("count(max)", x.count(MAX), -1);
        x.empty(0, 5, 1);
        Due.is("held", x.count(3), 2);
        Due.is("void", x.count(4), 0);
    }

    private static void keep() {
        OfficeLadder x = republic();
        x.stone(1, 0, 0);
        x.stone(0, 0, 199);
        x.stone(0, 0, 7);
        x.stone(1, 0, 7);
        x.stone(1, 0, 8);
        x.annul(0, 8, 0, true);
        Due.is("keep bytes", x.keep(0, 3, 0), 0);
        Due.element(x, 0, 0, "1");
        Due.element(x, 0, 1, "-1");
        Due.element(x, 0, 7, "0");
        Due.element(x, 0, 8, "1");
        Due.element(x, 0, 199, "0");
        Due.element(x, 0, 200, STATE);
        Due.is("keep ints", x.keep(7, 4, 0), 0);
        int[] due = {-50, 7, 200, 0, -1};
        for (int i = 0; i < 5; i++) {
            Due.element(x, 7, i, Integer.toString(due[i]));
        }
        Due.element(x, 7, 5, STATE);
        x.death(0, 40);
        x.exile(0, 3, 199);
        x.keep(7, 4, 0);
        int[] later = {-50, 7, 40, 3, 199};
        for (int i = 0; i < 5; i++) {
            Due.element(x, 7, i, Integer.toString(later[i]));
        }
        x.exile(0, 9, 8);
        x.keep(7, 4, 0);
        Due.element(x, 7, 3, "0");
        Due.element(x, 7, 4, "-1");
        Due.is("nothing", x.keep(7, 0, MIN), 0);
        Due.is("nothing is held", x.weight(7), -11);
        Due.is("a law", x.keep(7, 1, 0), 0);
        Due.is("its weight", x.weight(7), 152);
        int[][] bad = {{-1, 0, 0}, {8, 0, 0}, {7, 2, 0}, {7, 5, 0}, {7, -1, 0}, {7, 1, 1}, {7, 1, -1},
            {7, 3, 2}, {7, 3, -1}, {7, 4, 2}, {7, 4, -1}, {MIN, 0, 0}, {7, MAX, 0}, {7, 4, MAX}};
        for (int[] b : bad) {
            Due.is("keep(" + b[0] + ", " + b[1] + ", " + b[2] + ")", x.keep(b[0], b[1], b[2]), -1);
        }
        Due.is("unchanged by refusals", x.weight(7), 152);
    }

    private static void keepIsAPicture() {
        OfficeLadder x = republic();
        x.keep(0, 3, 0);
        x.keep(1, 4, 0);
        x.keep(2, 3, 0);
        x.stone(1, 0, 5);
        x.death(0, 9);
        Due.element(x, 0, 5, "-1");
        Due.element(x, 1, 2, "200");
        x.keep(2, 3, 0);
        Due.element(x, 0, 5, "-1");
        Due.element(x, 2, 5, "1");
        x.copy(0, 0, 2, 0, 200);
        Due.is("lists stay as they are", x.seat(0, 5, 0), 1);
    }

    private static void make() {
        OfficeLadder x = republic();
        x.keep(0, 3, 0);
        x.keep(1, 4, 0);
        Due.is("bytes", x.make(0, 3, 60), 0);
        Due.element(x, 0, 0, "0");
        Due.element(x, 0, 59, "0");
        Due.element(x, 0, 60, STATE);
        Due.is("ints", x.make(1, 4, 60), 0);
        Due.element(x, 1, 0, "0");
        Due.element(x, 1, 59, "0");
        Due.element(x, 1, 60, STATE);
        Due.is("kind", x.copy(0, 0, 1, 0, 0), -12);
        Due.is("no elements", x.make(0, 3, 0), 0);
        Due.element(x, 0, 0, STATE);
        Due.is("61", x.make(0, 3, 61), -1);
        Due.is("max", x.make(0, 4, MAX), -1);
        Due.is("-1", x.make(0, 3, -1), -14);
        Due.is("min", x.make(0, 4, MIN), -14);
        Due.is("shelf -1", x.make(-1, 3, -1), -1);
        Due.is("shelf 8", x.make(8, 3, 1), -1);
        Due.is("what 0", x.make(0, 0, 1), -1);
        Due.is("what 1", x.make(0, 1, -1), -1);
        Due.is("what 2", x.make(0, 2, 1), -1);
        Due.is("what 5", x.make(0, 5, 1), -1);
        x.keep(0, 1, 0);
        Due.is("a refused one leaves what is held", x.make(0, 3, -1), -14);
        Due.is("a law", x.weight(0), 152);
        Due.is("over a law", x.make(0, 3, 1), 0);
        Due.is("no law", x.weight(0), -12);
    }

    private static void element() {
        OfficeLadder x = republic();
        Due.element(x, -1, 0, ARGUMENT);
        Due.element(x, 8, 0, ARGUMENT);
        Due.element(x, MIN, MIN, ARGUMENT);
        Due.element(x, MAX, -1, ARGUMENT);
        Due.element(x, 0, 0, STATE);
        x.keep(0, 1, 0);
        Due.element(x, 0, 0, STATE);
        x.make(0, 4, 2);
        Due.element(x, 0, -1, STATE);
        Due.element(x, 0, 1, "0");
        Due.element(x, 0, 2, STATE);
        Due.element(x, 0, MIN, STATE);
        Due.element(x, 0, MAX, STATE);
        x.keep(0, 0, 0);
        Due.element(x, 0, 0, STATE);
    }

    private static void copy() {
        OfficeLadder x = republic();
        for (int y = 0; y < 6; y++) {
            x.stone(y % 2, 0, y);
        }
        x.keep(0, 3, 0);
        x.make(1, 3, 4);
        Due.is("copy", x.copy(0, 1, 1, 2, 2), 2);
        int[] due = {0, 0, 1, 0};
        for (int i = 0; i < 4; i++) {
            Due.element(x, 1, i, Integer.toString(due[i]));
        }
        x.keep(2, 4, 0);
        Due.is("upwards over itself", x.copy(2, 0, 2, 1, 4), 4);
        int[] up = {-50, -50, 7, 200, 0};
        for (int i = 0; i < 5; i++) {
            Due.element(x, 2, i, Integer.toString(up[i]));
        }
        x.keep(2, 4, 0);
        Due.is("downwards over itself", x.copy(2, 1, 2, 0, 4), 4);
        int[] down = {7, 200, 0, -1, -1};
        for (int i = 0; i < 5; i++) {
            Due.element(x, 2, i, Integer.toString(down[i]));
        }
        x.make(3, 4, 5);
        x.copy(2, 0, 3, 0, 5);
        x.make(2, 4, 5);
        Due.element(x, 3, 1, "200");
    }

    private static void copyEdges() {
        OfficeLadder x = republic();
        x.make(0, 3, 5);
        x.make(1, 3, 3);
        x.make(2, 4, 5);
        x.keep(3, 1, 0);
        Due.is("shelf -1", x.copy(-1, 0, 1, 0, 0), -1);
        Due.is("shelf 8", x.copy(0, 0, 8, 0, 0), -1);
        Due.is("nothing from", x.copy(4, -1, 3, 0, 0), -11);
        Due.is("nothing to", x.copy(3, 0, 4, 0, -1), -11);
        Due.is("a law from", x.copy(3, 0, 0, 0, -1), -12);
        Due.is("a law to", x.copy(0, 0, 3, 0, -1), -12);
        Due.is("laws", x.copy(3, 0, 3, 0, 0), -12);
        Due.is("of two kinds", x.copy(0, -1, 2, 0, 0), -12);
        Due.is("n -1", x.copy(0, 0, 1, 0, -1), -13);
        Due.is("i -1", x.copy(0, -1, 1, 0, 1), -13);
        Due.is("j -1", x.copy(0, 0, 1, -1, 1), -13);
        Due.is("beyond the one", x.copy(1, 1, 0, 0, 3), -13);
        Due.is("beyond the other", x.copy(0, 0, 1, 1, 3), -13);
        Due.is("all of it", x.copy(0, 2, 1, 0, 3), 3);
        Due.is("none at the ends", x.copy(0, 5, 1, 3, 0), 0);
        Due.is("none beyond the one", x.copy(0, 6, 1, 3, 0), -13);
        Due.is("none beyond the other", x.copy(0, 5, 1, 4, 0), -13);
        Due.is("far", x.copy(0, MAX, 1, 0, 1), -13);
        Due.is("far", x.copy(0, 0, 1, MAX, MAX), -13);
        Due.is("far", x.copy(0, 1, 1, 1, MAX), -13);
        Due.is("far", x.copy(0, MIN, 1, MIN, MIN), -13);
    }

    private static OfficeLadder laws() {
        OfficeLadder x = new OfficeLadder();
        x.office(1, false);
        x.office(1, false);
        // Numbers other than their kinds.
        x.law(51, -77, 0, 200);
        x.law(41, 0, 0, 200);
        x.law(30, 6, 0, 200);
        x.law(20, 99, 0, 200);
        x.law(11, 1, 0, 200);
        x.law(0, 0, 0, 200);
        for (int k = 0; k < 6; k++) {
            x.keep(k + 1, 1, k);
        }
        return x;
    }

    private static void weight() {
        OfficeLadder x = laws();
        int[] due = {1015, 114, 2 * 1119, 2 * 1211, 1112, 110};
        for (int k = 0; k < 6; k++) {
            Due.is("weight of law " + k, x.weight(k + 1), due[k]);
        }
        Due.is("shelf -1", x.weight(-1), -1);
        Due.is("shelf 8", x.weight(8), -1);
        Due.is("nothing", x.weight(0), -11);
        x.make(0, 3, 1);
        Due.is("bytes", x.weight(0), -12);
        x.keep(0, 4, 0);
        x.make(0, 4, 0);
        Due.is("ints", x.weight(0), -12);
    }

    private static void toss() {
        OfficeLadder x = laws();
        int[] due = {0, -15, 2, 3, 4, -15};
        for (int k = 0; k < 6; k++) {
            Due.is("failure of law " + k, x.toss(k + 1), due[k]);
        }
        Due.is("shelf -1", x.toss(-1), -1);
        Due.is("shelf 8", x.toss(8), -1);
        Due.is("nothing", x.toss(0), -11);
        x.make(0, 3, 1);
        Due.is("bytes", x.toss(0), -12);
        x.make(0, 4, 1);
        Due.is("ints", x.toss(0), -12);
    }
}
