/** Promises 15 to 19: could, first, who, breaches, breach. */
public final class LivesTest {
    public static void main(String[] args) {
        orderOfBars();
        age();
        after();
        gap();
        again();
        barOfOrder();
        kin();
        freeOffices();
        wrongInputs();
        first();
        who();
        breaches();
        breachOrder();
        Due.end();
    }

    private static OfficeLadder withOffices(int n) {
        OfficeLadder x = new OfficeLadder();
        for (int o = 0; o < n; o++) {
            x.office(2, false);
        }
        return x;
    }

    private static void orderOfBars() {
        OfficeLadder x = withOffices(2);
        x.person(1, 60, 70, -1);
        x.law(41, 1, 0, 200);
        x.law(1, 99, 0, 200);
        x.stone(0, 1, 50);
        x.exile(0, 50, 50);
        x.death(0, 50);
        Due.is("dead first", x.could(0, 0, 50, 1), -4);
        Due.is("not", x.could(0, 0, 50, 0), 0);
        x.death(0, 51);
        Due.is("then not born", x.could(0, 0, 50, 1), -5);
        x.birth(0, 50, 70);
        Due.is("then exile", x.could(0, 0, 50, 1), -6);
        x.exile(0, 49, 49);
        Due.is("then a seat", x.could(0, 0, 50, 1), -7);
        x.annul(1, 50, 0, true);
        Due.is("a void one, too", x.could(0, 0, 50, 1), -7);
        x.empty(1, 50, 0);
        Due.is("then laws by numbers", x.could(0, 0, 50, 1), 0);
        x.repeal(0, 50);
        Due.is("the next law", x.could(0, 0, 50, 1), 1);
        Due.is("laws of another office", x.could(0, 1, 50, 1), -2);
        Due.is("surely", x.could(0, 1, 50, 0), 2);
    }

    private static void age() {
        OfficeLadder x = withOffices(1);
        x.person(0, 10, 15, -1);
        x.law(0, 30, 0, 200);
        Due.is("for no birth", x.could(0, 0, 39, 1), 0);
        Due.is("for no birth", x.could(0, 0, 39, 0), 0);
        Due.is("for the earliest", x.could(0, 0, 40, 1), -2);
        Due.is("perhaps", x.could(0, 0, 40, 0), 1);
        Due.is("perhaps still", x.could(0, 0, 44, 0), 1);
        Due.is("surely", x.could(0, 0, 45, 0), 2);
        x.law(1, 32, 0, 46);
        Due.is("another law leaves doubt", x.could(0, 0, 45, 0), 1);
        Due.is("not in force any more", x.could(0, 0, 46, 0), 2);
        x.birth(0, -50, -50);
        Due.is("born ahead of 0", x.could(0, 0, 0, 0), 2);
        OfficeLadder y = withOffices(1);
        y.person(0, 10, 15, -1);
        Due.is("no age law: surely from the first year on", y.could(0, 0, 10, 0), 2);
        y.law(1, 0, 0, 200);
        Due.is("age 0 leaves doubt", y.could(0, 0, 14, 0), 1);
        Due.is("age 0 leaves none", y.could(0, 0, 15, 0), 2);
    }

    private static void after() {
        OfficeLadder x = withOffices(2);
        x.person(0, 0, 0, -1);
        x.person(0, 0, 0, -1);
        x.law(12, 0, 0, 200);
        Due.is("never held", x.could(0, 1, 50, 1), 0);
        x.stone(0, 0, 50);
        Due.is("in that very year: a seat", x.could(0, 1, 50, 1), -7);
        Due.is("the year behind", x.could(0, 1, 51, 1), -2);
        Due.is("ahead of it", x.could(0, 1, 49, 1), 0);
        Due.is("another one held it", x.could(1, 1, 51, 1), 0);
        x.annul(0, 50, 0, true);
        Due.is("void", x.could(0, 1, 51, 1), 0);
        x.stone(0, 1, 20);
        Due.is("another office", x.could(0, 1, 51, 1), 0);
    }

    private static void gap() {
        OfficeLadder x = withOffices(2);
        x.office(1, true);
        x.person(0, 0, 0, -1);
        x.law(21, 3, 0, 200);
        x.stone(0, 1, 50);
        Due.is("ahead of it", x.could(0, 0, 49, 1), -2);
        Due.is("one year on", x.could(0, 0, 51, 1), 0);
        Due.is("three years on", x.could(0, 0, 53, 1), 0);
        Due.is("four years on", x.could(0, 0, 54, 1), -2);
        Due.is("of another office", x.could(0, 1, 51, 1), -2);
        x.annul(1, 50, 0, true);
        Due.is("void", x.could(0, 0, 51, 1), -2);
        x.stone(0, 2, 60);
        Due.is("a free one, too", x.could(0, 0, 63, 1), 0);
        Due.is("a free one, too", x.could(0, 0, 64, 1), -2);
        x.stone(0, 0, 70);
        Due.is("that office, too", x.could(0, 0, 73, 1), 0);
        x.annul(0, 70, 0, true);
        Due.is("void", x.could(0, 0, 71, 1), -2);
        x.stone(0, 0, 0);
        Due.is("from the year 0", x.could(0, 0, 3, 1), 0);
        Due.is("from the year 0", x.could(0, 0, 4, 1), -2);
    }

    private static void again() {
        OfficeLadder x = withOffices(2);
        x.person(0, 0, 0, -1);
        x.law(30, 2, 0, 200);
        x.stone(0, 1, 50);
        Due.is("that office", x.could(0, 1, 51, 1), 0);
        Due.is("that office", x.could(0, 1, 52, 1), 0);
        Due.is("that office", x.could(0, 1, 53, 1), -2);
        Due.is("another office", x.could(0, 0, 51, 1), -2);
        Due.is("ahead of it", x.could(0, 1, 49, 1), -2);
        x.annul(1, 50, 0, true);
        Due.is("void", x.could(0, 1, 51, 1), -2);
    }

    private static void barOfOrder() {
        OfficeLadder x = withOffices(2);
        x.person(0, 0, 0, -1);
        x.person(1, 0, 0, -1);
        x.law(42, 0, 0, 200);
        Due.is("of that order", x.could(0, 1, 5, 1), 0);
        Due.is("of the other", x.could(1, 1, 5, 1), -2);
        Due.is("of another office", x.could(0, 0, 5, 1), -2);
    }

    private static void kin() {
        OfficeLadder x = withOffices(2);
        x.person(0, 0, 0, -1);
        x.person(0, 0, 0, 0);
        x.person(0, 0, 0, 0);
        x.person(0, 0, 0, 1);
        x.person(0, 0, 0, -1);
        x.law(50, 0, 0, 200);
        x.stone(1, 0, 50);
        Due.is("his father", x.could(0, 0, 50, 1), 0);
        Due.is("his brother", x.could(2, 0, 50, 1), 0);
        Due.is("his child", x.could(3, 0, 50, 1), 0);
        Due.is("none of his", x.could(4, 0, 50, 1), -2);
        Due.is("another office", x.could(2, 1, 50, 1), -2);
        Due.is("another year", x.could(2, 0, 51, 1), -2);
        x.annul(0, 50, 0, true);
        Due.is("void", x.could(0, 0, 50, 1), -2);
        x.stone(0, 0, 60);
        Due.is("a grandfather", x.could(3, 0, 60, 1), -2);
        x.stone(4, 0, 70);
        Due.is("without a father told they are no brothers", x.could(0, 0, 70, 1), -2);
        x.stone(2, 0, 80);
        Due.is("an uncle", x.could(3, 0, 80, 1), -2);
        x.person(0, 0, 0, 4);
        x.stone(0, 0, 90);
        x.annul(0, 90, 0, true);
        for (int p = 1; p < 6; p++) {
            Due.is("0 is void, for " + p, x.could(p, 0, 90, 1), -2);
        }
        x.stone(3, 1, 100);
        Due.is("one is no kin of oneself", x.breach(0), -3);
    }

    private static void freeOffices() {
        OfficeLadder x = new OfficeLadder();
        x.office(1, true);
        x.person(0, 10, 50, -1);
        x.law(0, 99, 0, 200);
        x.law(41, 0, 0, 200);
        Due.is("no law binds it", x.could(0, 0, 10, 1), -2);
        Due.is("nor leaves doubt", x.could(0, 0, 10, 0), 2);
        Due.is("lives do", x.could(0, 0, 9, 1), -5);
    }

    private static void wrongInputs() {
        OfficeLadder x = withOffices(1);
        x.person(0, 0, 0, -1);
        for (int bad : new int[] {-1, 1, Integer.MIN_VALUE, Integer.MAX_VALUE}) {
            Due.is("could, person " + bad, x.could(bad, 0, 5, 0), -1);
            Due.is("could, office " + bad, x.could(0, bad, 5, 0), -1);
            Due.is("first, person " + bad, x.first(bad, 0, 5, true), -1);
            Due.is("first, office " + bad, x.first(0, bad, 5, true), -1);
            Due.is("who, office " + bad, x.who(bad, 5, true), -1);
        }
        for (int bad : new int[] {-1, 200, Integer.MIN_VALUE, Integer.MAX_VALUE}) {
            Due.is("could, year " + bad, x.could(0, 0, bad, 1), -1);
            Due.is("first, year " + bad, x.first(0, 0, bad, false), -1);
            Due.is("who, year " + bad, x.who(0, bad, false), -1);
        }
        Due.is("could, what -1", x.could(0, 0, 5, -1), -1);
        Due.is("could, what 2", x.could(0, 0, 5, 2), -1);
    }

    private static void first() {
        OfficeLadder x = withOffices(1);
        x.person(0, 10, 15, -1);
        x.law(1, 30, 0, 200);
        Due.is("perhaps", x.first(0, 0, 0, false), 40);
        Due.is("surely", x.first(0, 0, 0, true), 45);
        Due.is("from that very year", x.first(0, 0, 45, true), 45);
        Due.is("later", x.first(0, 0, 46, true), 46);
        x.stone(0, 0, 45);
        Due.is("not where he has a seat", x.first(0, 0, 45, true), 46);
        x.exile(0, 46, 49);
        Due.is("nor in exile", x.first(0, 0, 45, true), 50);
        x.death(0, 50);
        Due.is("nor dead", x.first(0, 0, 45, true), -2);
        x.death(0, 45);
        Due.is("never surely", x.first(0, 0, 0, true), -2);
        Due.is("perhaps once", x.first(0, 0, 0, false), 40);
        x.death(0, 200);
        Due.is("the last year", x.first(0, 0, 199, true), 199);
    }

    private static void who() {
        OfficeLadder x = withOffices(1);
        Due.is("no one", x.who(0, 50, false), 0);
        x.person(0, 10, 10, -1);
        x.person(0, 10, 15, -1);
        x.person(0, 15, 15, -1);
        x.person(0, 51, 51, -1);
        Due.is("without laws", x.who(0, 50, true), 3);
        x.law(1, 40, 0, 200);
        Due.is("perhaps", x.who(0, 50, false), 2);
        Due.is("surely", x.who(0, 50, true), 1);
        x.stone(1, 0, 50);
        Due.is("one has a seat", x.who(0, 50, false), 1);
    }

    private static void breaches() {
        OfficeLadder x = withOffices(2);
        x.person(0, 0, 0, -1);
        x.person(0, 0, 0, 0);
        x.stone(0, 0, 50);
        x.stone(1, 0, 50);
        Due.is("none", x.breaches(), 0);
        Due.is("breach(0)", x.breach(0), -3);
        x.law(50, 0, 0, 200);
        Due.is("both", x.breaches(), 2);
        Due.is("breach(0)", x.breach(0), 50);
        Due.is("breach(1)", x.breach(1), 50);
        Due.is("breach(2)", x.breach(2), -3);
        x.annul(0, 50, 1, true);
        Due.is("void ones are none, nor bar", x.breaches(), 0);
        x.annul(0, 50, 1, false);
        x.annul(0, 50, 0, true);
        Due.is("void ones are none, nor bar", x.breaches(), 0);
        x.annul(0, 50, 0, false);
        x.repeal(0, 50);
        Due.is("not in force any more", x.breaches(), 0);
        x.law(20, 1, 0, 200);
        Due.is("one's own holding is left out", x.breaches(), 0);
        x.stone(0, 1, 51);
        Due.is("the later one of two", x.breach(0), 1051);
        Due.is("only it", x.breaches(), 1);
        x.death(1, 50);
        Due.is("one dead, too", x.breaches(), 2);
        Due.is("breach(-1)", x.breach(-1), -1);
        Due.is("breach(min)", x.breach(Integer.MIN_VALUE), -1);
        Due.is("breach(max)", x.breach(Integer.MAX_VALUE), -3);
        x.birth(0, 0, 60);
        x.law(0, 20, 0, 200);
        Due.is("perhaps is no breach", x.breaches(), 2);
    }

    private static void breachOrder() {
        OfficeLadder x = withOffices(3);
        x.person(0, 0, 0, -1);
        x.person(0, 0, 0, -1);
        x.death(0, 0);
        x.death(1, 0);
        x.stone(0, 0, 199);
        x.stone(0, 2, 7);
        x.stone(1, 1, 7);
        x.stone(0, 1, 6);
        x.stone(1, 2, 0);
        int[] due = {2000, 1006, 1007, 2007, 199};
        Due.is("breaches", x.breaches(), due.length);
        for (int i = 0; i < due.length; i++) {
            Due.is("breach(" + i + ")", x.breach(i), due[i]);
        }
    }
}
