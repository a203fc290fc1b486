/**
 * What the values at the edges bring about: the first and the last YEAR in which something holds,
 * and the YEARS, votes and places just beyond.
 */
public final class EdgesTest {
    private static final int NO_BAR = -2;
    private static final int DEAD = -4;
    private static final int UNBORN = -5;
    private static final int EXILED = -6;
    private static final int SEATED = -7;

    public static void main(String[] args) {
        yearsOfDeath();
        yearsOfExile();
        yearsOfBirth();
        seatInAYear();
        yearsInForce();
        yearsOfAge();
        earlierYears();
        yearsAhead("GAP", 20, true);
        yearsAhead("AGAIN", 30, false);
        orders();
        kinInOfficeAndYear();
        firstYears();
        votesForASeat();
        likeVotes();
        votesAhead();
        ordersByNumbers();
        seatsBeyondProvinces();
        weights();
        copiesOverThemselves();
        Due.end();
    }

    private static OfficeLadder one() {
        OfficeLadder x = new OfficeLadder();
        x.office(1, false);
        x.person(0, 0, 0, -1);
        return x;
    }

    private static void bar(String told, OfficeLadder x, int year, int due) {
        Due.is(told + ", in " + year, x.could(0, 0, year, 1), due);
    }

    private static void yearsOfDeath() {
        for (int death = 0; death <= 200; death += death == 1 ? 197 : 1) {
            OfficeLadder x = one();
            x.death(0, death);
            int[] years = {0, 1, 197, 198, 199};
            for (int year : years) {
                bar("death in " + death, x, year, year >= death ? DEAD : NO_BAR);
            }
        }
        OfficeLadder x = one();
        x.death(0, 0);
        Due.is("none again", x.death(0, 200), 0);
        bar("death taken back", x, 0, NO_BAR);
        bar("death taken back", x, 199, NO_BAR);
    }

    private static void yearsOfExile() {
        int[][] spans = {{0, 0}, {0, 1}, {0, 199}, {5, 5}, {5, 8}, {198, 199}, {199, 199}, {1, 0}, {199, 0}, {199, 198}};
        for (int[] span : spans) {
            OfficeLadder x = one();
            Due.is("there was none", x.exile(0, span[0], span[1]), 0);
            for (int year = 0; year < 200; year++) {
                boolean away = span[0] <= year && year <= span[1];
                bar("exile " + span[0] + " to " + span[1], x, year, away ? EXILED : NO_BAR);
            }
            Due.is("there was one", x.exile(0, 50, 50), span[0] <= span[1] ? 1 : 0);
            bar("the latest told", x, 50, EXILED);
            bar("the latest told", x, span[0], NO_BAR);
        }
    }

    private static void yearsOfBirth() {
        int[] births = {-50, -1, 0, 1, 198, 199};
        for (int first : births) {
            OfficeLadder x = one();
            x.birth(0, first, 199);
            int[] years = {0, 1, 2, 197, 198, 199};
            for (int year : years) {
                bar("born from " + first + " on", x, year, year < first ? UNBORN : NO_BAR);
            }
        }
    }

    private static void seatInAYear() {
        int[] years = {0, 199};
        for (int year : years) {
            OfficeLadder x = one();
            x.office(1, true);
            x.stone(0, 1, year);
            bar("a seat elsewhere", x, year, SEATED);
            bar("the year beside it", x, Math.abs(year - 1), NO_BAR);
            Due.is("no second seat", x.stone(0, 0, year), -3);
            x.annul(1, year, 0, true);
            bar("a void seat", x, year, SEATED);
            Due.is("no second seat", x.stone(0, 0, year), -3);
            x.empty(1, year, 0);
            bar("no seat any more", x, year, NO_BAR);
            Due.is("a seat", x.stone(0, 0, year), 0);
        }
    }

    private static void yearsInForce() {
        int[][] spans = {{0, 1}, {0, 200}, {7, 8}, {7, 12}, {198, 199}, {198, 200}, {199, 200}};
        for (int[] span : spans) {
            OfficeLadder x = one();
            x.law(40, 0, span[0], span[1]);
            for (int year = 0; year < 200; year++) {
                boolean inForce = span[0] <= year && year < span[1];
                bar("law " + span[0] + " to " + span[1], x, year, inForce ? 0 : NO_BAR);
            }
            Due.is("repealed as early as can be", x.repeal(0, span[0] + 1), span[1]);
            bar("its only year", x, span[0], 0);
            if (span[0] < 199) {
                bar("the next year", x, span[0] + 1, NO_BAR);
            }
            Due.is("no earlier", x.repeal(0, span[0]), -1);
            Due.is("no later", x.repeal(0, span[0] + 2), -1);
        }
    }

    private static void yearsOfAge() {
        int[] ages = {0, 1, 42, 98, 99};
        int[][] births = {{-50, -50}, {-50, -48}, {0, 0}, {0, 3}, {98, 101}, {100, 102}, {198, 199}};
        for (int n : ages) {
            for (int[] birth : births) {
                OfficeLadder x = one();
                x.birth(0, birth[0], birth[1]);
                x.law(1, n, 0, 200);
                String told = "AGE " + n + ", born " + birth[0] + " to " + birth[1];
                for (int year = Math.max(0, birth[0]); year < 200; year++) {
                    int level = year - birth[0] < n ? 0 : year - birth[1] < n ? 1 : 2;
                    Due.is(told + ", in " + year, x.could(0, 0, year, 0), level);
                    bar(told, x, year, level == 0 ? 0 : NO_BAR);
                }
            }
        }
    }

    private static void earlierYears() {
        int[] years = {0, 1, 50, 198, 199};
        for (int held : years) {
            OfficeLadder x = one();
            x.office(1, true);
            x.stone(0, 1, held);
            x.law(11, 1, 0, 200);
            for (int year : years) {
                bar("AFTER one held in " + held, x, year, year == held ? SEATED : year > held ? NO_BAR : 0);
                Due.is("held ahead of " + year, x.held(0, 1, year), year > held ? 1 : 0);
            }
            x.annul(1, held, 0, true);
            for (int year : years) {
                bar("AFTER a void one in " + held, x, year, year == held ? SEATED : 0);
                Due.is("held, void, ahead of " + year, x.held(0, -1, year), 0);
            }
        }
    }

    /** GAP looks at any OFFICE, FREE ones too; AGAIN at that one alone. */
    private static void yearsAhead(String kind, int told, boolean any) {
        int[] spans = {1, 2, 98, 99};
        for (int n : spans) {
            for (int office = 0; office < 3; office++) {
                OfficeLadder x = one();
                x.office(1, false);
                x.office(1, true);
                x.law(told, n, 0, 200);
                x.stone(0, office, 100);
                boolean binds = any || office == 0;
                String words = kind + " " + n + ", held office " + office + " in 100";
                bar(words, x, 99, NO_BAR);
                bar(words, x, 100, SEATED);
                bar(words, x, 101, binds ? 0 : NO_BAR);
                bar(words, x, 100 + n, binds ? 0 : NO_BAR);
                if (n < 99) {
                    bar(words, x, 101 + n, NO_BAR);
                }
                x.annul(office, 100, 0, true);
                bar(words + ", void", x, 101, NO_BAR);
                x.empty(office, 100, 0);
                x.stone(0, office, 0);
                bar(words + ", then in 0", x, 1, binds ? 0 : NO_BAR);
                bar(words + ", then in 0", x, n, binds ? 0 : NO_BAR);
                bar(words + ", then in 0", x, n + 1, NO_BAR);
            }
        }
        OfficeLadder x = one();
        x.law(told, 99, 0, 200);
        bar("nothing is ahead of the first year", x, 0, NO_BAR);
    }

    private static void orders() {
        for (int order = 0; order <= 1; order++) {
            for (int barred = 0; barred <= 1; barred++) {
                OfficeLadder x = new OfficeLadder();
                x.office(1, false);
                x.person(order, 0, 0, -1);
                x.law(41, barred, 0, 200);
                bar("BAR " + barred + " of order " + order, x, 0, order == barred ? 0 : NO_BAR);
                Due.is("could", x.could(0, 0, 0, 0), order == barred ? 0 : 2);
            }
        }
    }

    private static void kinInOfficeAndYear() {
        int[] years = {0, 199};
        for (int year : years) {
            OfficeLadder x = new OfficeLadder();
            x.office(3, false);
            x.office(3, false);
            x.person(0, 0, 0, -1);
            x.person(0, 0, 0, 0);
            x.person(0, 0, 0, 0);
            x.person(0, 0, 0, -1);
            x.law(51, 0, 0, 200);
            x.stone(1, 0, year);
            int beside = Math.abs(year - 1);
            int[] due = {0, SEATED, 0, NO_BAR};
            for (int p = 0; p < 4; p++) {
                Due.is("KIN, for " + p, x.could(p, 0, year, 1), due[p]);
                Due.is("KIN in the year beside it, for " + p, x.could(p, 0, beside, 1), NO_BAR);
                Due.is("KIN in another office, for " + p, x.could(p, 1, year, 1), p == 1 ? SEATED : NO_BAR);
            }
        }
    }

    private static void firstYears() {
        OfficeLadder x = one();
        x.law(41, 0, 0, 199);
        Due.is("only the last year", x.first(0, 0, 0, true), 199);
        Due.is("only the last year", x.first(0, 0, 199, false), 199);
        x.law(41, 0, 199, 200);
        Due.is("no year", x.first(0, 0, 0, false), -2);
        Due.is("not the last year", x.first(0, 0, 199, false), -2);
        OfficeLadder y = one();
        y.birth(0, 100, 101);
        y.law(1, 99, 0, 200);
        Due.is("perhaps in the last year", y.first(0, 0, 0, false), 199);
        Due.is("never surely", y.first(0, 0, 0, true), -2);
        Due.is("who perhaps could", y.who(0, 199, false), 1);
        Due.is("who surely could", y.who(0, 199, true), 0);
        Due.is("who a year ahead", y.who(0, 198, false), 0);
        y.birth(0, 100, 100);
        Due.is("surely in the last year", y.first(0, 0, 0, true), 199);
        Due.is("who surely could", y.who(0, 199, true), 1);
    }

    /** 17 votes elect no one ahead of the end, 18 do. */
    private static void votesForASeat() {
        OfficeLadder x = new OfficeLadder();
        x.election(3, 1);
        for (int unit = 0; unit < 17; unit++) {
            x.vote(unit, 4);
        }
        Due.is("17 votes: the most at the end", x.elected(0L, 0, 0), 2);
        Due.is("17 votes: after 35", x.elected(0L, 0, 1), 35);
        for (int unit = 17; unit < 35; unit++) {
            x.vote(unit, 2);
        }
        Due.is("18 votes", x.elected(0L, 0, 0), 1);
        Due.is("at the last unit", x.elected(0L, 0, 1), 35);
        Due.is("like votes with one unit left: sure after all", x.sure(0L), 35);
        x.vote(17, 4);
        Due.is("18 votes", x.elected(0L, 0, 0), 2);
        Due.is("at the 18th unit", x.elected(0L, 0, 1), 18);
        x.vote(17, 1);
        Due.is("17 and 17 votes: who came to them first", x.elected(0L, 0, 0), 2);
        Due.is("17 and 17 votes", x.elected(0L, 0, 1), 35);
    }

    private static void likeVotes() {
        OfficeLadder x = new OfficeLadder();
        x.election(4, 2);
        x.vote(0, 12);
        Due.is("of like ones the lesser", x.elected(0L, 0, 0), 2);
        Due.is("again", x.elected(0L, 1, 0), 3);
        x.vote(1, 3);
        Due.is("who came to one vote first", x.elected(0L, 0, 0), 2);
        Due.is("again", x.elected(0L, 1, 0), 3);
        Due.is("by an order with unit 1 first", x.elected(1L, 0, 0), 0);
        Due.is("again", x.elected(1L, 1, 0), 1);
        x.vote(2, 9);
        Due.is("two votes at one unit: the lesser", x.elected(0L, 0, 0), 0);
        Due.is("two votes at one unit", x.elected(0L, 1, 0), 3);
        x.election(3, 1);
        x.vote(34, 4);
        Due.is("a vote of the last unit is more than none", x.elected(0L, 0, 0), 2);
    }

    /** With v votes for one from the first UNITS on it is SURE after max(v, 35 - v) of them. */
    private static void votesAhead() {
        for (int votes = 0; votes <= 35; votes++) {
            OfficeLadder x = new OfficeLadder();
            x.election(4, 1);
            for (int unit = 0; unit < votes; unit++) {
                x.vote(unit, 8);
            }
            int due = votes >= 18 ? 18 : 35 - votes;
            Due.is(votes + " votes ahead", x.sure(0L), due);
        }
        OfficeLadder x = new OfficeLadder();
        x.vote(33, 1);
        Due.is("one vote, one unit left", x.sure(0L), 34);
        x.vote(33, 2);
        x.vote(32, 1);
        Due.is("like votes, one unit left", x.sure(0L), 35);
        x.vote(34, 1);
        Due.is("at the last unit", x.sure(0L), 35);
        x.election(3, 2);
        x.vote(0, 3);
        Due.is("the second is one ahead of the third", x.sure(0L), 34);
        x.vote(1, 5);
        Due.is("the second is as far as the third", x.sure(0L), 35);
    }

    /** By n! the number is used up and all is as by 0; one less draws the last one each time. */
    private static void ordersByNumbers() {
        long ways = 1;
        for (int n = 1; n <= 20; n++) {
            ways *= n;
            OfficeLadder x = new OfficeLadder();
            for (int i = 0; i < n; i++) {
                Due.is("drawn(" + n + ", 0)", x.drawn(n, 0L, i), i);
                Due.is("drawn(" + n + ", n! - 1)", x.drawn(n, ways - 1, i), n - 1 - i);
                Due.is("drawn(" + n + ", n!)", x.drawn(n, ways, i), i);
            }
            Due.is("drawn(" + n + ", n - 1)", x.drawn(n, n - 1L, 0), n - 1);
            Due.is("drawn(" + n + ", n)", x.drawn(n, n, 0), 0);
        }
    }

    private static void seatsBeyondProvinces() {
        OfficeLadder x = new OfficeLadder();
        x.office(3, false);
        for (int p = 0; p < 3; p++) {
            x.person(0, 0, 0, -1);
            x.stone(p, 0, 199);
        }
        for (int n = 1; n <= 9; n++) {
            for (int s = 0; s < 3; s++) {
                int due = s < n ? x.drawn(n, 1234567L, s) : -2;
                Due.is("seat " + s + " of " + n + " provinces", x.province(0, 199, s, n, 1234567L), due);
            }
        }
        x.empty(0, 199, 1);
        Due.is("the third is the second that holds", x.province(0, 199, 2, 2, 0L), 1);
        Due.is("and beyond one province", x.province(0, 199, 2, 1, 0L), -2);
        Due.is("empty, beyond or not", x.province(0, 199, 1, 1, 0L), -3);
        x.empty(0, 199, 0);
        Due.is("the only one that holds", x.province(0, 199, 2, 1, 0L), 0);
        yearsBesideALot();
    }

    /** Those who HOLD a YEAR ahead, or other OFFICES, have no part in the LOT. */
    private static void yearsBesideALot() {
        OfficeLadder x = new OfficeLadder();
        x.office(2, false);
        x.office(2, false);
        for (int p = 0; p < 4; p++) {
            x.person(0, 0, 0, -1);
        }
        for (int year = 0; year < 3; year++) {
            for (int p = 0; p < 4; p++) {
                x.stone(p, p / 2, year);
            }
        }
        for (int year = 0; year < 3; year++) {
            for (int p = 0; p < 4; p++) {
                Due.is("lot of " + p + " in " + year, x.province(p / 2, year, p % 2, 2, 1L), 1 - p % 2);
            }
        }
    }

    private static void weights() {
        int[][] laws = {{0, 0, 110}, {0, 99, 209}, {10, 0, 1111}, {10, 7, 1118}, {20, 1, 2226}, {20, 99, 2422},
            {30, 1, 2228}, {30, 99, 2424}, {40, 0, 114}, {40, 1, 115}, {50, Integer.MIN_VALUE, 1015},
            {50, Integer.MAX_VALUE, 1015}};
        OfficeLadder x = new OfficeLadder();
        for (int o = 0; o < 8; o++) {
            x.office(1, false);
        }
        for (int l = 0; l < laws.length; l++) {
            Due.is("law", x.law(laws[l][0], laws[l][1], 0, 200), l);
            x.keep(7, 1, l);
            Due.is("weight of law(" + laws[l][0] + ", " + laws[l][1] + ")", x.weight(7), laws[l][2]);
            x.repeal(l, 1);
            Due.is("repealed or not", x.weight(7), laws[l][2]);
            boolean fails = laws[l][0] != 0 && laws[l][0] != 40;
            Due.is("toss of law(" + laws[l][0] + ", " + laws[l][1] + ")", x.toss(7), fails ? l : -15);
        }
    }

    /** "As they all were before": both ways, by each distance, over one ROW. */
    private static void copiesOverThemselves() {
        for (int to = 0; to < 5; to++) {
            for (int from = 0; from < 5; from++) {
                int n = 5 - Math.max(from, to);
                OfficeLadder x = new OfficeLadder();
                x.office(1, false);
                x.person(0, 11, 12, -1);
                x.person(0, 0, 0, -1);
                x.death(0, 13);
                x.exile(0, 14, 15);
                x.keep(2, 4, 0);
                Due.is("ints", x.copy(2, from, 2, to, n), n);
                // The holders of the first five years are 0, 1, none, 1, 0.
                int[] holders = {0, 1, -1, 1, 0};
                for (int year = 0; year < 5; year++) {
                    x.stone(holders[year], 0, year);
                }
                x.keep(3, 3, 0);
                Due.is("bytes", x.copy(3, from, 3, to, n), n);
                for (int i = 0; i < 5; i++) {
                    boolean over = to <= i && i < to + n;
                    int was = over ? i - to + from : i;
                    Due.element(x, 2, i, Integer.toString(11 + was));
                    Due.element(x, 3, i, Integer.toString(holders[was]));
                }
                Due.is("no more than n", x.copy(3, 5, 3, 5, 0), 0);
                Due.element(x, 3, 5, "-1");
            }
        }
    }
}
