/** Promises 9 to 14: stone, empty, annul, seat, holds, held. */
public final class ListsTest {
    public static void main(String[] args) {
        stone();
        empty();
        annul();
        seatAndHolds();
        held();
        Due.end();
    }

    private static OfficeLadder republic() {
        OfficeLadder x = new OfficeLadder();
        x.office(2, false);
        x.office(3, true);
        x.person(0, 0, 0, -1);
        x.person(0, 0, 0, -1);
        x.person(0, 0, 0, -1);
        x.person(0, 0, 0, -1);
        return x;
    }

    private static void stone() {
        OfficeLadder x = republic();
        Due.is("first seat", x.stone(0, 0, 10), 0);
        Due.is("holds already there", x.stone(0, 0, 10), -3);
        Due.is("holds already elsewhere", x.stone(0, 1, 10), -3);
        Due.is("second seat", x.stone(1, 0, 10), 1);
        Due.is("no seat left", x.stone(2, 0, 10), -3);
        Due.is("another year", x.stone(2, 0, 11), 0);
        Due.is("another office", x.stone(2, 1, 10), 0);
        x.empty(0, 10, 0);
        Due.is("the first empty one", x.stone(3, 0, 10), 0);
        Due.is("no such person", x.stone(4, 0, 10), -1);
        Due.is("person -1", x.stone(-1, 0, 10), -1);
        Due.is("no such office", x.stone(0, 2, 10), -1);
        Due.is("office -1", x.stone(0, -1, 10), -1);
        Due.is("year 200", x.stone(0, 0, 200), -1);
        Due.is("year -1", x.stone(0, 0, -1), -1);
        Due.is("year 199", x.stone(0, 0, 199), 0);
        Due.is("year 0", x.stone(0, 0, 0), 0);
        x.law(41, 0, 0, 200);
        x.death(1, 5);
        Due.is("laws or not, dead or not", x.stone(1, 0, 50), 0);
        Due.is("holdings", x.count(3), 7);
    }

    private static void empty() {
        OfficeLadder x = republic();
        Due.is("it is empty", x.empty(0, 10, 0), -3);
        x.stone(2, 0, 10);
        x.stone(1, 0, 10);
        Due.is("who held it", x.empty(0, 10, 1), 1);
        Due.is("it became empty", x.seat(0, 10, 1), -2);
        Due.is("and one holds none", x.holds(1, 10), -2);
        Due.is("again", x.empty(0, 10, 1), -3);
        x.annul(0, 10, 0, true);
        Due.is("a void one", x.count(4), 1);
        Due.is("who held it, void", x.empty(0, 10, 0), 2);
        Due.is("no void one", x.count(4), 0);
        Due.is("no holding", x.count(3), 0);
        Due.is("put in again", x.stone(3, 0, 10), 0);
        Due.is("and not void", x.seat(0, 10, 0), 3);
        Due.is("seat 2", x.empty(0, 10, 2), -1);
        Due.is("seat -1", x.empty(0, 10, -1), -1);
        Due.is("office 2", x.empty(2, 10, 0), -1);
        Due.is("office -1", x.empty(-1, 10, 0), -1);
        Due.is("year 200", x.empty(0, 200, 0), -1);
        Due.is("year -1", x.empty(0, -1, 0), -1);
    }

    private static void annul() {
        OfficeLadder x = republic();
        Due.is("it is empty", x.annul(0, 10, 0, true), -3);
        Due.is("it is empty", x.annul(0, 10, 0, false), -3);
        x.stone(2, 0, 10);
        Due.is("it was not", x.annul(0, 10, 0, false), 0);
        Due.is("void", x.annul(0, 10, 0, true), 1);
        Due.is("void already", x.annul(0, 10, 0, true), 0);
        Due.is("count(4)", x.count(4), 1);
        Due.is("count(3)", x.count(3), 1);
        Due.is("not void", x.annul(0, 10, 0, false), 1);
        Due.is("count(4)", x.count(4), 0);
        Due.is("seat 2", x.annul(0, 10, 2, true), -1);
        Due.is("seat -1", x.annul(0, 10, -1, true), -1);
        Due.is("office 2", x.annul(2, 10, 0, true), -1);
        Due.is("year 200", x.annul(0, 200, 0, true), -1);
        Due.is("year -1", x.annul(0, -1, 0, true), -1);
    }

    private static void seatAndHolds() {
        OfficeLadder x = republic();
        Due.is("empty", x.seat(1, 199, 2), -2);
        Due.is("none", x.holds(0, 199), -2);
        x.stone(3, 1, 199);
        x.stone(0, 1, 199);
        Due.is("first", x.seat(1, 199, 0), 3);
        Due.is("second", x.seat(1, 199, 1), 0);
        Due.is("third", x.seat(1, 199, 2), -2);
        Due.is("holds", x.holds(3, 199), 1);
        Due.is("holds the year ahead", x.holds(3, 198), -2);
        x.annul(1, 199, 1, true);
        Due.is("void", x.seat(1, 199, 1), 100);
        Due.is("holds, void", x.holds(0, 199), 1);
        Due.is("seat 3", x.seat(1, 199, 3), -1);
        Due.is("seat -1", x.seat(1, 199, -1), -1);
        Due.is("office 2", x.seat(2, 199, 0), -1);
        Due.is("office -1", x.seat(-1, 199, 0), -1);
        Due.is("year 200", x.seat(1, 200, 0), -1);
        Due.is("year -1", x.seat(1, -1, 0), -1);
        Due.is("holds, no such person", x.holds(4, 199), -1);
        Due.is("holds, person -1", x.holds(-1, 199), -1);
        Due.is("holds, year 200", x.holds(0, 200), -1);
        Due.is("holds, year -1", x.holds(0, -1), -1);
    }

    private static void held() {
        OfficeLadder x = republic();
        x.stone(0, 0, 0);
        x.stone(0, 1, 5);
        x.stone(0, 0, 6);
        x.stone(0, 0, 199);
        x.stone(1, 0, 3);
        Due.is("ahead of 0", x.held(0, -1, 0), 0);
        Due.is("ahead of 1", x.held(0, -1, 1), 1);
        Due.is("not in that year", x.held(0, -1, 6), 2);
        Due.is("any", x.held(0, -1, 199), 3);
        Due.is("office 0", x.held(0, 0, 199), 2);
        Due.is("office 1", x.held(0, 1, 199), 1);
        Due.is("another one", x.held(1, -1, 199), 1);
        x.annul(0, 6, 0, true);
        Due.is("void left out", x.held(0, 0, 199), 1);
        Due.is("void left out of any", x.held(0, -1, 199), 2);
        x.annul(0, 6, 0, false);
        Due.is("not void again", x.held(0, -1, 199), 3);
        Due.is("office -2", x.held(0, -2, 199), -1);
        Due.is("office 2", x.held(0, 2, 199), -1);
        Due.is("person 4", x.held(4, 0, 199), -1);
        Due.is("person -1", x.held(-1, 0, 199), -1);
        Due.is("year 200", x.held(0, 0, 200), -1);
        Due.is("year -1", x.held(0, 0, -1), -1);
    }
}
