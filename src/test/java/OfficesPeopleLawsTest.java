/** Promises 1 to 8: a new object, office, person, death, exile, birth, law, repeal. */
public final class OfficesPeopleLawsTest {
    private static final int MIN = Integer.MIN_VALUE;
    private static final int MAX = Integer.MAX_VALUE;

    public static void main(String[] args) {
        newObject();
        office();
        person();
        death();
        exile();
        birth();
        law();
        lawNumbers();
        repeal();
        Due.end();
    }

    private static void newObject() {
        OfficeLadder x = new OfficeLadder();
        for (int what = 0; what <= 5; what++) {
            Due.is("new: count(" + what + ")", x.count(what), 0);
        }
        Due.is("new: breaches", x.breaches(), 0);
        Due.is("new: fillings", x.fillings(0), 1);
        Due.is("new: fill", x.fill(199), 0);
        Due.is("new: no election of three", x.vote(0, 4), -1);
        Due.is("new: one seat", x.vote(0, 3), -1);
        Due.is("new: elected", x.elected(0L, 0, 0), 0);
        Due.is("new: elected, one seat", x.elected(0L, 1, 0), -1);
        Due.is("new: two candidates", x.vote(0, 2), 1);
        for (int d = 0; d < 8; d++) {
            Due.is("new: weight(" + d + ")", x.weight(d), -11);
        }
    }

    private static void office() {
        OfficeLadder x = new OfficeLadder();
        Due.is("office(0)", x.office(0, false), -1);
        Due.is("office(4)", x.office(4, true), -1);
        Due.is("office(min)", x.office(MIN, true), -1);
        for (int o = 0; o < 8; o++) {
            Due.is("office " + o, x.office(o % 3 + 1, o % 2 == 0), o);
        }
        Due.is("office, ninth", x.office(1, false), -2);
        Due.is("office, ninth and wrong", x.office(0, false), -1);
        Due.is("count(0)", x.count(0), 8);
        Due.is("seats of 0", x.seat(0, 0, 1), -1);
        Due.is("seats of 1", x.seat(1, 0, 1), -2);
        Due.is("seats of 1", x.seat(1, 0, 2), -1);
        Due.is("seats of 2", x.seat(2, 0, 2), -2);
        Due.is("seats of 2", x.seat(2, 0, 3), -1);
    }

    private static void person() {
        OfficeLadder x = new OfficeLadder();
        Due.is("order 2", x.person(2, 0, 0, -1), -1);
        Due.is("order -1", x.person(-1, 0, 0, -1), -1);
        Due.is("first -51", x.person(0, -51, 0, -1), -1);
        Due.is("last 200", x.person(0, 0, 200, -1), -1);
        Due.is("first above last", x.person(0, 1, 0, -1), -1);
        Due.is("father himself", x.person(0, 0, 0, 0), -1);
        Due.is("father -2", x.person(0, 0, 0, -2), -1);
        Due.is("the widest span", x.person(0, -50, 199, -1), 0);
        Due.is("father later", x.person(0, 0, 0, 1), -1);
        Due.is("father earlier", x.person(1, 199, 199, 0), 1);
        for (int p = 2; p < 24; p++) {
            Due.is("person " + p, x.person(p % 2, p, p, p - 1), p);
        }
        Due.is("a 25th", x.person(0, 0, 0, -1), -2);
        Due.is("a 25th, wrong", x.person(0, 0, 0, 24), -1);
        Due.is("a 25th, son of the last", x.person(0, 0, 0, 23), -2);
        Due.is("count(1)", x.count(1), 24);
    }

    private static void death() {
        OfficeLadder x = new OfficeLadder();
        x.office(1, true);
        Due.is("no one yet", x.death(0, 5), -1);
        x.person(0, 0, 0, -1);
        Due.is("death, first", x.death(0, 50), 200);
        Due.is("death, again", x.death(0, 0), 50);
        Due.is("death, none", x.death(0, 200), 0);
        Due.is("death 201", x.death(0, 201), -1);
        Due.is("death -1", x.death(0, -1), -1);
        Due.is("death of 1", x.death(1, 5), -1);
        Due.is("death of -1", x.death(-1, 5), -1);
        Due.is("unchanged by refusals", x.death(0, 70), 200);
        Due.is("alive the year ahead", x.could(0, 0, 69, 1), -2);
        Due.is("dead from then on", x.could(0, 0, 70, 1), -4);
        Due.is("dead later", x.could(0, 0, 199, 1), -4);
    }

    private static void exile() {
        OfficeLadder x = new OfficeLadder();
        x.office(1, true);
        Due.is("no one yet", x.exile(0, 1, 2), -1);
        x.person(0, 0, 0, -1);
        Due.is("exile none, none", x.exile(0, 5, 4), 0);
        Due.is("exile", x.exile(0, 10, 12), 0);
        Due.is("ahead of it", x.could(0, 0, 9, 1), -2);
        Due.is("its first year", x.could(0, 0, 10, 1), -6);
        Due.is("its last year", x.could(0, 0, 12, 1), -6);
        Due.is("behind it", x.could(0, 0, 13, 1), -2);
        Due.is("from 200", x.exile(0, 200, 199), -1);
        Due.is("to 200", x.exile(0, 0, 200), -1);
        Due.is("from -1", x.exile(0, -1, 3), -1);
        Due.is("to -1", x.exile(0, 0, -1), -1);
        Due.is("exile of 1", x.exile(1, 3, 4), -1);
        Due.is("unchanged by refusals", x.could(0, 0, 11, 1), -6);
        Due.is("the latest told", x.exile(0, 20, 20), 1);
        Due.is("the one before is gone", x.could(0, 0, 11, 1), -2);
        Due.is("of one year", x.could(0, 0, 20, 1), -6);
        Due.is("exile ends", x.exile(0, 1, 0), 1);
        Due.is("exile ended", x.could(0, 0, 20, 1), -2);
        Due.is("exile ended, at 0", x.could(0, 0, 0, 1), -2);
        Due.is("there was none", x.exile(0, 0, 199), 0);
    }

    private static void birth() {
        OfficeLadder x = new OfficeLadder();
        x.office(1, false);
        Due.is("no one yet", x.birth(0, 1, 2), -1);
        x.person(0, 10, 20, -1);
        Due.is("the same", x.birth(0, 10, 20), 0);
        Due.is("another first", x.birth(0, 11, 20), 1);
        Due.is("another last", x.birth(0, 11, 21), 1);
        Due.is("first above last", x.birth(0, 12, 11), -1);
        Due.is("first -51", x.birth(0, -51, 11), -1);
        Due.is("last 200", x.birth(0, 12, 200), -1);
        Due.is("of 1", x.birth(1, 12, 13), -1);
        Due.is("unchanged by refusals", x.birth(0, 11, 21), 0);
        Due.is("wide", x.birth(0, -50, 199), 1);
        Due.is("back", x.birth(0, 11, 21), 1);
        Due.is("ahead of the first year", x.could(0, 0, 10, 1), -5);
        Due.is("from the first year on", x.could(0, 0, 11, 0), 2);
    }

    private static void law() {
        OfficeLadder x = new OfficeLadder();
        Due.is("of all, without offices", x.law(0, 0, 0, 1), 0);
        Due.is("of no such office", x.law(1, 0, 0, 1), -1);
        x.office(1, false);
        x.office(1, false);
        Due.is("of office 0", x.law(1, 0, 0, 1), 1);
        Due.is("of office 1", x.law(2, 0, 199, 200), 2);
        Due.is("of office 2", x.law(3, 0, 0, 1), -1);
        Due.is("of office 8", x.law(9, 0, 0, 1), -1);
        Due.is("told -1", x.law(-1, 0, 0, 1), -1);
        Due.is("told -10", x.law(-10, 0, 0, 1), -1);
        Due.is("kind 6", x.law(60, 0, 0, 1), -1);
        Due.is("told max", x.law(MAX, 0, 0, 1), -1);
        Due.is("told min", x.law(MIN, 0, 0, 1), -1);
        Due.is("from -1", x.law(0, 0, -1, 1), -1);
        Due.is("from 200", x.law(0, 0, 200, 201), -1);
        Due.is("to 201", x.law(0, 0, 0, 201), -1);
        Due.is("to is from", x.law(0, 0, 5, 5), -1);
        Due.is("to ahead of from", x.law(0, 0, 5, 4), -1);
        Due.is("count(2)", x.count(2), 3);
        for (int l = 3; l < 20; l++) {
            Due.is("law " + l, x.law(50, l, 0, 200), l);
        }
        Due.is("a 21st", x.law(0, 0, 0, 1), -2);
        Due.is("a 21st, wrong", x.law(0, 0, 0, 0), -1);
        Due.is("count(2)", x.count(2), 20);
    }

    private static void lawNumbers() {
        OfficeLadder x = new OfficeLadder();
        x.office(1, false);
        x.office(1, false);
        Due.is("AGE -1", x.law(0, -1, 0, 1), -1);
        Due.is("AGE 100", x.law(0, 100, 0, 1), -1);
        Due.is("AGE 0", x.law(0, 0, 0, 1), 0);
        Due.is("AGE 99", x.law(0, 99, 0, 1), 1);
        Due.is("AFTER -1", x.law(10, -1, 0, 1), -1);
        Due.is("AFTER 2", x.law(10, 2, 0, 1), -1);
        Due.is("AFTER 1", x.law(10, 1, 0, 1), 2);
        Due.is("GAP 0", x.law(20, 0, 0, 1), -1);
        Due.is("GAP 100", x.law(20, 100, 0, 1), -1);
        Due.is("GAP 1", x.law(20, 1, 0, 1), 3);
        Due.is("GAP 99", x.law(20, 99, 0, 1), 4);
        Due.is("AGAIN 0", x.law(30, 0, 0, 1), -1);
        Due.is("AGAIN 100", x.law(30, 100, 0, 1), -1);
        Due.is("AGAIN 1", x.law(30, 1, 0, 1), 5);
        Due.is("AGAIN 99", x.law(30, 99, 0, 1), 6);
        Due.is("BAR -1", x.law(40, -1, 0, 1), -1);
        Due.is("BAR 2", x.law(40, 2, 0, 1), -1);
        Due.is("BAR 0", x.law(40, 0, 0, 1), 7);
        Due.is("BAR 1", x.law(40, 1, 0, 1), 8);
        Due.is("KIN of any", x.law(50, MIN, 0, 1), 9);
        Due.is("KIN of any", x.law(52, MAX, 0, 1), 10);
        Due.is("KIN of no such office", x.law(53, 0, 0, 1), -1);
    }

    private static void repeal() {
        OfficeLadder x = new OfficeLadder();
        x.office(1, false);
        x.person(0, 0, 0, -1);
        Due.is("no law yet", x.repeal(0, 5), -1);
        x.law(40, 0, 10, 100);
        Due.is("ahead of it", x.could(0, 0, 9, 1), -2);
        Due.is("its first year", x.could(0, 0, 10, 1), 0);
        Due.is("its last year", x.could(0, 0, 99, 1), 0);
        Due.is("behind it", x.could(0, 0, 100, 1), -2);
        Due.is("at its first year", x.repeal(0, 10), -1);
        Due.is("ahead of its first year", x.repeal(0, 9), -1);
        Due.is("above up to when it is", x.repeal(0, 101), -1);
        Due.is("law -1", x.repeal(-1, 50), -1);
        Due.is("law 1", x.repeal(1, 50), -1);
        Due.is("when it ends", x.repeal(0, 100), 100);
        Due.is("earlier", x.repeal(0, 50), 100);
        Due.is("in force the year ahead", x.could(0, 0, 49, 1), 0);
        Due.is("not in force any more", x.could(0, 0, 50, 1), -2);
        Due.is("later again", x.repeal(0, 51), -1);
        Due.is("the earliest", x.repeal(0, 11), 50);
        Due.is("one year is left", x.could(0, 0, 10, 1), 0);
        Due.is("and no more", x.could(0, 0, 11, 1), -2);
        Due.is("far", x.repeal(0, MAX), -1);
        Due.is("far", x.repeal(0, MIN), -1);
    }
}
