/** Promises 23 to 28: election, vote, elected, sure, drawn, province. */
public final class ElectionsTest {
    public static void main(String[] args) {
        election();
        vote();
        electedByMajority();
        electedOfTheRest();
        twoAtOneUnit();
        wrongElected();
        sure();
        drawn();
        province();
        Due.end();
    }

    private static void election() {
        OfficeLadder x = new OfficeLadder();
        int[][] bad = {{1, 1}, {5, 1}, {2, 0}, {2, 2}, {3, 3}, {4, 3}, {0, 0}, {-1, -2}, {4, -1}, {1, 0}};
        x.vote(0, 1);
        for (int[] b : bad) {
            Due.is("election(" + b[0] + ", " + b[1] + ")", x.election(b[0], b[1]), -1);
        }
        Due.is("refused ones leave the votes", x.count(5), 1);
        Due.is("election(3, 1)", x.election(3, 1), 1);
        Due.is("without votes", x.count(5), 0);
        Due.is("election(3, 2)", x.election(3, 2), 0);
        Due.is("a unit", x.vote(0, 3), 1);
        Due.is("a unit", x.vote(34, 6), 1);
        Due.is("the same unit", x.vote(34, 5), 1);
        Due.is("election(4, 2)", x.election(4, 2), 2);
        Due.is("election(4, 1)", x.election(4, 1), 0);
        Due.is("election(2, 1)", x.election(2, 1), 0);
    }

    private static void vote() {
        OfficeLadder x = new OfficeLadder();
        Due.is("vote", x.vote(0, 1), 1);
        Due.is("the same", x.vote(0, 1), 0);
        Due.is("another", x.vote(0, 2), 1);
        Due.is("none", x.vote(0, 0), -1);
        Due.is("both", x.vote(0, 3), -1);
        Due.is("no such candidate", x.vote(0, 4), -1);
        Due.is("below 0", x.vote(0, -1), -1);
        Due.is("min", x.vote(0, Integer.MIN_VALUE), -1);
        Due.is("one and a far bit", x.vote(0, 1 | 1 << 30), -1);
        Due.is("unit -1", x.vote(-1, 1), -1);
        Due.is("unit 35", x.vote(35, 1), -1);
        Due.is("unit 34", x.vote(34, 1), 1);
        Due.is("count(5)", x.count(5), 2);
        Due.is("unchanged by refusals", x.vote(0, 2), 0);
        x.election(4, 2);
        Due.is("one", x.vote(0, 8), -1);
        Due.is("two", x.vote(0, 12), 1);
        Due.is("three", x.vote(0, 14), -1);
        Due.is("a far one", x.vote(0, 17), -1);
        Due.is("all", x.vote(0, 15), -1);
    }

    private static void electedByMajority() {
        OfficeLadder x = new OfficeLadder();
        for (int u = 0; u < 35; u++) {
            x.vote(u, u < 17 ? 2 : 1);
        }
        Due.is("18 of 35", x.elected(0L, 0, 0), 0);
        Due.is("at the last unit", x.elected(0L, 0, 1), 35);
        x.vote(17, 2);
        Due.is("the other", x.elected(0L, 0, 0), 1);
        Due.is("after 18", x.elected(0L, 0, 1), 18);
        Due.is("the last first: after 19", x.elected(34L, 0, 1), 19);
        x.vote(34, 2);
        Due.is("sure after 18", x.sure(0L), 18);
        Due.is("the last first: after 18", x.elected(34L, 0, 1), 18);
    }

    private static void electedOfTheRest() {
        OfficeLadder x = new OfficeLadder();
        x.election(4, 1);
        Due.is("no votes: the least", x.elected(0L, 0, 0), 0);
        x.vote(3, 1);
        x.elected(0L, 0, 0);
        x.election(4, 1);
        Due.is("no votes again: the least", x.elected(0L, 0, 0), 0);
        x.vote(20, 8);
        Due.is("one vote", x.elected(0L, 0, 0), 3);
        Due.is("not by 18 votes", x.elected(0L, 0, 1), 35);
        x.vote(5, 4);
        Due.is("came to one first", x.elected(0L, 0, 0), 2);
        Due.is("by an order that draws 20 first", x.elected(20L, 0, 0), 3);
        x.vote(30, 8);
        Due.is("the most", x.elected(0L, 0, 0), 3);
        x.vote(29, 4);
        Due.is("came to two first", x.elected(0L, 0, 0), 2);
        x.election(3, 2);
        for (int u = 0; u < 18; u++) {
            x.vote(u, 5);
        }
        Due.is("two by 18", x.elected(0L, 0, 0), 0);
        Due.is("two by 18", x.elected(0L, 1, 0), 2);
        Due.is("after 18", x.elected(0L, 1, 1), 18);
        x.vote(17, 6);
        Due.is("one by 18", x.elected(0L, 0, 0), 2);
        Due.is("after 18", x.elected(0L, 0, 1), 18);
        Due.is("and the first of the rest", x.elected(0L, 1, 0), 0);
        Due.is("after 35", x.elected(0L, 1, 1), 35);
    }

    private static void twoAtOneUnit() {
        OfficeLadder x = new OfficeLadder();
        x.election(4, 2);
        for (int u = 0; u < 17; u++) {
            x.vote(u, 6);
        }
        x.vote(17, 12);
        x.vote(18, 10);
        Due.is("the first to come to 18", x.elected(0L, 0, 0), 2);
        Due.is("the next", x.elected(0L, 1, 0), 1);
        Due.is("after 18", x.elected(0L, 0, 1), 18);
        Due.is("after 19", x.elected(0L, 1, 1), 19);
        x.vote(17, 6);
        Due.is("the lesser first", x.elected(0L, 0, 0), 1);
        Due.is("the lesser first", x.elected(0L, 1, 0), 2);
        Due.is("both after 18", x.elected(0L, 1, 1), 18);
        // 0 comes to 18 first; then 1 and 2 at one unit, for one seat.
        x.election(3, 2);
        for (int u = 0; u < 18; u++) {
            x.vote(u, u % 2 == 0 ? 3 : 5);
        }
        for (int u = 18; u < 34; u++) {
            x.vote(u, u < 25 ? 6 : u % 2 == 0 ? 3 : 5);
        }
        x.vote(25, 6);
        x.vote(26, 6);
        for (int u = 27; u < 35; u++) {
            x.vote(u, 6);
        }
        Due.is("0", x.elected(0L, 0, 0), 0);
        Due.is("the lesser of two", x.elected(0L, 1, 0), 1);
        Due.is("after 27", x.elected(0L, 1, 1), 27);
        Due.is("sure, though the next has as many", x.sure(0L), 27);
    }

    private static void wrongElected() {
        OfficeLadder x = new OfficeLadder();
        Due.is("number -1", x.elected(-1L, 0, 0), -1);
        Due.is("number min", x.elected(Long.MIN_VALUE, 0, 0), -1);
        Due.is("number max", x.elected(Long.MAX_VALUE, 0, 0), 0);
        Due.is("i -1", x.elected(0L, -1, 0), -1);
        Due.is("i 1", x.elected(0L, 1, 0), -1);
        Due.is("what -1", x.elected(0L, 0, -1), -1);
        Due.is("what 2", x.elected(0L, 0, 2), -1);
        x.election(3, 2);
        Due.is("i 1 of two", x.elected(0L, 1, 0), 1);
        Due.is("i 2 of two", x.elected(0L, 2, 0), -1);
    }

    private static void sure() {
        OfficeLadder x = new OfficeLadder();
        Due.is("number -1", x.sure(-1L), -1);
        Due.is("number min", x.sure(Long.MIN_VALUE), -1);
        Due.is("no votes", x.sure(0L), 35);
        Due.is("number max", x.sure(Long.MAX_VALUE), 35);
        for (int u = 0; u < 35; u++) {
            x.vote(u, 1);
        }
        Due.is("all for one", x.sure(0L), 18);
        OfficeLadder y = new OfficeLadder();
        for (int u = 0; u < 12; u++) {
            y.vote(u, 1);
        }
        Due.is("12 ahead with 12 left", y.sure(0L), 23);
        Due.is("12 of them drawn, one late", y.sure(34L), 23);
        y.vote(34, 2);
        Due.is("one against, first", y.sure(34L), 24);
        y.election(3, 2);
        for (int u = 0; u < 17; u++) {
            y.vote(u, 3);
        }
        Due.is("both 17 ahead, with 18 left", y.sure(0L), 18);
        y.vote(17, 5);
        Due.is("one by 18, the other 16 ahead with 17 left", y.sure(0L), 19);
        y.vote(18, 6);
        Due.is("both by 18", y.sure(0L), 19);
        y.vote(16, 5);
        Due.is("one by 18, the other 14 ahead", y.sure(0L), 21);
        Due.is("who is elected then", y.elected(0L, 1, 0), 1);
        fewVotesOfFour();
    }

    /** Each of four in turn has the votes of 14 UNITS, the next one those of 4: 10 ahead. */
    private static void fewVotesOfFour() {
        for (int most = 0; most < 4; most++) {
            for (int next = 0; next < 4; next++) {
                if (next != most) {
                    OfficeLadder x = new OfficeLadder();
                    x.election(4, 1);
                    for (int u = 0; u < 18; u++) {
                        x.vote(u, u < 14 ? 1 << most : 1 << next);
                    }
                    Due.is(most + " is 10 ahead of " + next, x.sure(0L), 25);
                    x.election(4, 2);
                    for (int u = 0; u < 14; u++) {
                        x.vote(u, 1 << most | 1 << next);
                    }
                    Due.is(most + " and " + next + " are 14 ahead", x.sure(0L), 21);
                    int other = 0;
                    while (other == most || other == next) {
                        other++;
                    }
                    for (int u = 14; u < 17; u++) {
                        x.vote(u, 1 << most | 1 << other);
                    }
                    Due.is(next + " is 11 ahead of " + other, x.sure(0L), 24);
                }
            }
        }
    }

    private static void drawn() {
        OfficeLadder x = new OfficeLadder();
        for (int i = 0; i < 35; i++) {
            Due.is("drawn by 0", x.drawn(35, 0L, i), i);
        }
        int[] due = {3, 0, 1, 2};
        for (int i = 0; i < 4; i++) {
            Due.is("drawn(4, 3, " + i + ")", x.drawn(4, 3L, i), due[i]);
        }
        int[] last = {3, 2, 1, 0};
        for (int i = 0; i < 4; i++) {
            Due.is("drawn(4, 23, " + i + ")", x.drawn(4, 23L, i), last[i]);
            Due.is("drawn(4, 24, " + i + ")", x.drawn(4, 24L, i), i);
        }
        Due.is("by max", x.drawn(35, Long.MAX_VALUE, 0), Long.MAX_VALUE % 35);
        Due.is("of one", x.drawn(1, 99L, 0), 0);
        Due.is("n 0", x.drawn(0, 0L, 0), -1);
        Due.is("n 36", x.drawn(36, 0L, 0), -1);
        Due.is("n min", x.drawn(Integer.MIN_VALUE, 0L, 0), -1);
        Due.is("number -1", x.drawn(3, -1L, 0), -1);
        Due.is("i -1", x.drawn(3, 0L, -1), -1);
        Due.is("i 3", x.drawn(3, 0L, 3), -1);
    }

    private static void province() {
        OfficeLadder x = new OfficeLadder();
        x.office(3, false);
        for (int p = 0; p < 3; p++) {
            x.person(0, 0, 0, -1);
            x.stone(p, 0, 9);
        }
        for (int s = 0; s < 3; s++) {
            Due.is("province of seat " + s, x.province(0, 9, s, 9, 500L), x.drawn(9, 500L, s));
            Due.is("of three by 5", x.province(0, 9, s, 3, 5L), 2 - s);
        }
        Due.is("beyond n", x.province(0, 9, 2, 2, 1L), -2);
        Due.is("within n", x.province(0, 9, 1, 2, 1L), 0);
        x.annul(0, 9, 0, true);
        Due.is("void or not", x.province(0, 9, 1, 3, 5L), 1);
        Due.is("void or not", x.province(0, 9, 0, 3, 5L), 2);
        x.empty(0, 9, 0);
        Due.is("empty", x.province(0, 9, 0, 3, 5L), -3);
        Due.is("an empty one gets none", x.province(0, 9, 1, 3, 5L), 2);
        Due.is("an empty one gets none", x.province(0, 9, 2, 2, 1L), 0);
        Due.is("n 0", x.province(0, 9, 1, 0, 0L), -1);
        Due.is("n 10", x.province(0, 9, 1, 10, 0L), -1);
        Due.is("n 1", x.province(0, 9, 1, 1, Long.MAX_VALUE), 0);
        Due.is("number 0", x.province(0, 9, 1, 9, 0L), 0);
        Due.is("number -1", x.province(0, 9, 1, 1, -1L), -1);
        Due.is("seat 3", x.province(0, 9, 3, 1, 0L), -1);
        Due.is("seat -1", x.province(0, 9, -1, 1, 0L), -1);
        Due.is("year 200", x.province(0, 200, 0, 1, 0L), -1);
        Due.is("year -1", x.province(0, -1, 0, 1, 0L), -1);
        Due.is("office 1", x.province(1, 9, 0, 1, 0L), -1);
        Due.is("empty and wrong", x.province(0, 9, 0, 0, 0L), -1);
    }
}
