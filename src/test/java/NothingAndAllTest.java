/** Each call where nothing is there yet, and each where there is all that there can be. */
public final class NothingAndAllTest {
    private static final String STATE = "throws.IllegalStateException";

    public static void main(String[] args) {
        noOneAndNothing();
        peopleAlone();
        officesAlone();
        nothingVotedNothingKept();
        allOfficesPeopleLaws();
        allSeatsOfAYear();
        allYearsOfAnOffice();
        allUnits();
        allShelves();
        Due.end();
    }

    /** On a new object all that asks for an OFFICE, one of PEOPLE or a LAW is refused. */
    private static void noOneAndNothing() {
        OfficeLadder x = new OfficeLadder();
        Due.is("death", x.death(0, 50), -1);
        Due.is("exile", x.exile(0, 50, 51), -1);
        Due.is("birth", x.birth(0, 1, 2), -1);
        Due.is("a law of an office", x.law(1, 0, 0, 200), -1);
        Due.is("a law AFTER an office", x.law(10, 0, 0, 200), -1);
        Due.is("repeal", x.repeal(0, 50), -1);
        Due.is("stone", x.stone(0, 0, 50), -1);
        Due.is("empty", x.empty(0, 50, 0), -1);
        Due.is("annul", x.annul(0, 50, 0, true), -1);
        Due.is("seat", x.seat(0, 50, 0), -1);
        Due.is("holds", x.holds(0, 50), -1);
        Due.is("held", x.held(0, -1, 50), -1);
        Due.is("could", x.could(0, 0, 50, 0), -1);
        Due.is("first", x.first(0, 0, 50, false), -1);
        Due.is("who", x.who(0, 50, false), -1);
        Due.is("breaches", x.breaches(), 0);
        Due.is("breach", x.breach(0), -3);
        Due.is("fillings: one, of no seats", x.fillings(50), 1);
        Due.is("fill: no seats", x.fill(50), 0);
        Due.is("among", x.among(0, 0, 50), -1);
        Due.is("province", x.province(0, 50, 0, 9, 0L), -1);
        Due.is("keep a law", x.keep(0, 1, 0), -1);
        Due.is("keep an office's row", x.keep(0, 3, 0), -1);
        Due.is("keep a life", x.keep(0, 4, 0), -1);
        for (int what = 0; what <= 5; what++) {
            Due.is("count(" + what + ")", x.count(what), 0);
        }
        Due.is("a law of all", x.law(0, 0, 0, 200), 0);
        Due.is("the first office", x.office(1, false), 0);
        Due.is("the first of people", x.person(0, 0, 0, -1), 0);
    }

    private static void peopleAlone() {
        OfficeLadder x = new OfficeLadder();
        x.person(0, 0, 0, -1);
        Due.is("holds none", x.holds(0, 50), -2);
        Due.is("held none", x.held(0, -1, 199), 0);
        Due.is("held of no such office", x.held(0, 0, 199), -1);
        Due.is("could of no such office", x.could(0, 0, 50, 0), -1);
        Due.is("stone of no such office", x.stone(0, 0, 50), -1);
        Due.is("no seats to fill", x.fillings(50), 1);
        Due.is("among of no such office", x.among(0, 0, 50), -1);
    }

    private static void officesAlone() {
        OfficeLadder x = new OfficeLadder();
        x.office(3, false);
        for (int s = 0; s < 3; s++) {
            Due.is("seat", x.seat(0, 0, s), -2);
            Due.is("empty", x.empty(0, 199, s), -3);
            Due.is("annul", x.annul(0, 199, s, true), -3);
            Due.is("annul", x.annul(0, 199, s, false), -3);
            Due.is("province", x.province(0, 0, s, 9, 0L), -3);
        }
        Due.is("no one could", x.who(0, 50, false), 0);
        Due.is("no one to fill in", x.fillings(50), 0);
        Due.is("no one to fill in", x.fill(50), -9);
        Due.is("a row without holders", x.keep(0, 3, 0), 0);
        Due.element(x, 0, 0, "-1");
        Due.element(x, 0, 199, "-1");
        Due.element(x, 0, 200, STATE);
    }

    private static void nothingVotedNothingKept() {
        OfficeLadder x = new OfficeLadder();
        Due.is("elected", x.elected(0L, 0, 0), 0);
        Due.is("after all units", x.elected(0L, 0, 1), 35);
        Due.is("of one seat", x.elected(0L, 1, 0), -1);
        Due.is("sure", x.sure(0L), 35);
        Due.is("of two candidates", x.vote(0, 4), -1);
        Due.is("no units had voted", x.election(4, 2), 0);
        Due.is("the least", x.elected(7L, 0, 0), 0);
        Due.is("the next", x.elected(7L, 1, 0), 1);
        for (int d = 0; d < 8; d++) {
            Due.element(x, d, 0, STATE);
            Due.is("weight(" + d + ")", x.weight(d), -11);
            Due.is("toss(" + d + ")", x.toss(d), -11);
            Due.is("copy from and to " + d, x.copy(d, 0, d, 0, 0), -11);
            Due.is("keep nothing on " + d, x.keep(d, 0, 0), 0);
        }
    }

    private static OfficeLadder all(int seats) {
        OfficeLadder x = new OfficeLadder();
        for (int o = 0; o < 8; o++) {
            x.office(seats, false);
        }
        for (int p = 0; p < 24; p++) {
            x.person(0, 0, 0, p - 1);
        }
        return x;
    }

    private static void allOfficesPeopleLaws() {
        OfficeLadder x = all(1);
        for (int l = 0; l < 20; l++) {
            Due.is("law " + l, x.law(48, 0, 0, 200), l);
        }
        Due.is("a ninth office", x.office(3, true), -2);
        Due.is("a 25th of people", x.person(1, -50, 199, 23), -2);
        Due.is("a 21st law", x.law(58, 0, 199, 200), -2);
        Due.is("offices", x.count(0), 8);
        Due.is("people", x.count(1), 24);
        Due.is("laws", x.count(2), 20);
        Due.is("the last of each: the first law bars", x.could(23, 7, 199, 1), 0);
        for (int l = 0; l < 19; l++) {
            x.repeal(l, 1);
        }
        Due.is("the last law bars", x.could(23, 7, 199, 1), 19);
        Due.is("in the first year the first", x.could(23, 7, 0, 1), 0);
        Due.is("repeal of the last", x.repeal(19, 199), 200);
        Due.is("surely", x.could(23, 7, 199, 0), 2);
        Due.is("all of them could", x.who(7, 199, true), 24);
        Due.is("the last law is kept", x.keep(7, 1, 19), 0);
        Due.is("and weighed", x.weight(7), 114);
        OfficeLadder y = all(2);
        y.law(58, 0, 0, 200);
        y.stone(22, 7, 5);
        Due.is("his kin", y.could(23, 7, 5, 1), 0);
        Due.is("his father", y.could(21, 7, 5, 1), 0);
        Due.is("his grandfather", y.could(20, 7, 5, 1), -2);
    }

    private static void allSeatsOfAYear() {
        OfficeLadder x = all(3);
        Due.is("too many ways", x.fillings(199), -8);
        Due.is("fill", x.fill(199), 24);
        Due.is("held", x.count(3), 24);
        for (int p = 0; p < 24; p++) {
            Due.is("seat of " + p, x.seat(p / 3, 199, p % 3), p);
            Due.is("office of " + p, x.holds(p, 199), p / 3);
        }
        Due.is("one way to put in none", x.fillings(199), 1);
        Due.is("none to put in", x.fill(199), 0);
        Due.is("no seat left", x.stone(0, 7, 199), -3);
        Due.is("no one could", x.who(7, 199, false), 0);
        x.law(50, 0, 0, 200);
        Due.is("breaches: all have kin beside them", x.breaches(), 24);
        Due.is("the first", x.breach(0), 199);
        Due.is("the last", x.breach(23), 7199);
        Due.is("not so many", x.breach(24), -3);
        for (int p = 0; p < 24; p++) {
            Due.is("void", x.annul(p / 3, 199, p % 3, true), 1);
        }
        Due.is("all are void", x.count(4), 24);
        Due.is("the last of them", x.seat(7, 199, 2), 123);
        Due.is("no breaches", x.breaches(), 0);
        for (int p = 0; p < 24; p++) {
            Due.is("empty", x.empty(p / 3, 199, p % 3), p);
        }
        Due.is("held", x.count(3), 0);
        Due.is("void", x.count(4), 0);
    }

    private static void allYearsOfAnOffice() {
        OfficeLadder x = new OfficeLadder();
        x.office(1, false);
        x.person(0, 0, 0, -1);
        x.law(30, 1, 0, 200);
        for (int year = 0; year < 200; year++) {
            x.stone(0, 0, year);
        }
        Due.is("held in all years", x.count(3), 200);
        Due.is("ahead of the last", x.held(0, 0, 199), 199);
        Due.is("any office", x.held(0, -1, 199), 199);
        Due.is("a breach in all but the first", x.breaches(), 199);
        Due.is("the first", x.breach(0), 1);
        Due.is("the last", x.breach(198), 199);
        Due.is("not so many", x.breach(199), -3);
        Due.is("no year is left", x.first(0, 0, 0, false), -2);
        x.keep(0, 3, 0);
        Due.element(x, 0, 0, "0");
        Due.element(x, 0, 199, "0");
    }

    private static void allUnits() {
        OfficeLadder x = new OfficeLadder();
        x.election(4, 2);
        for (int unit = 0; unit < 35; unit++) {
            Due.is("vote", x.vote(unit, 12), 1);
            Due.is("units", x.count(5), unit + 1);
        }
        for (int unit = 0; unit < 35; unit++) {
            Due.is("another vote", x.vote(unit, 3), 1);
        }
        Due.is("units", x.count(5), 35);
        Due.is("the lesser first", x.elected(Long.MAX_VALUE, 0, 0), 0);
        Due.is("then the other", x.elected(Long.MAX_VALUE, 1, 0), 1);
        Due.is("both after 18", x.elected(Long.MAX_VALUE, 0, 1), 18);
        Due.is("both after 18", x.elected(Long.MAX_VALUE, 1, 1), 18);
        Due.is("sure after 18", x.sure(Long.MAX_VALUE), 18);
        Due.is("all had voted", x.election(2, 1), 35);
        Due.is("none has", x.count(5), 0);
        Due.is("nor is a vote left", x.sure(0L), 35);
    }

    private static void allShelves() {
        OfficeLadder x = new OfficeLadder();
        x.office(1, false);
        x.person(0, -50, 199, -1);
        for (int d = 0; d < 8; d++) {
            x.make(d, d % 2 == 0 ? 3 : 4, 60);
        }
        for (int d = 0; d < 8; d++) {
            Due.element(x, d, 59, "0");
            Due.element(x, d, 60, STATE);
            Due.is("weight(" + d + ")", x.weight(d), -12);
        }
        for (int d = 0; d < 8; d++) {
            x.keep(d, d % 2 == 0 ? 4 : 3, 0);
        }
        for (int d = 0; d < 8; d++) {
            Due.element(x, d, 0, d % 2 == 0 ? "-50" : "-1");
            Due.element(x, d, 4, "-1");
            Due.element(x, d, 199, d % 2 == 0 ? STATE : "-1");
        }
        Due.is("all of the longest row", x.copy(1, 0, 7, 0, 200), 200);
        Due.is("one more", x.copy(1, 0, 7, 0, 201), -13);
    }
}
