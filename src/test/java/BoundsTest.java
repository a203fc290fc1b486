/**
 * The last value that is taken and the first that is refused on either side of each bound of each
 * number of each call. Each is asked on an object of its own, once where there is one OFFICE, one
 * of PEOPLE and one LAW, once where there are some, and once where there are as many as can be.
 */
public final class BoundsTest {
    private static final int MIN = Integer.MIN_VALUE;
    private static final int MAX = Integer.MAX_VALUE;

    private final int offices;
    private final int people;
    private final int laws;

    private BoundsTest(int offices, int people, int laws) {
        this.offices = offices;
        this.people = people;
        this.laws = laws;
    }

    public static void main(String[] args) {
        int[][] sizes = {{1, 1, 1}, {3, 5, 4}, {8, 24, 20}};
        for (int[] size : sizes) {
            BoundsTest test = new BoundsTest(size[0], size[1], size[2]);
            test.lives();
            test.lawsInForce();
            test.lists();
            test.lawsOnLives();
            test.fillings();
            test.lots();
            test.shelves();
        }
        BoundsTest some = new BoundsTest(3, 5, 4);
        some.offices();
        some.newPeople();
        some.newLaws();
        some.numbersOfLaws();
        some.breachNumbers();
        elections();
        ballots();
        counting();
        drawing();
        rows();
        copies();
        Due.end();
    }

    /** OFFICE o has o % 3 + 1 SEATS; all people are born in 0; the laws bar no one. */
    private OfficeLadder scene() {
        OfficeLadder x = new OfficeLadder();
        for (int o = 0; o < offices; o++) {
            x.office(o % 3 + 1, false);
        }
        for (int p = 0; p < people; p++) {
            x.person(p % 2, 0, 0, -1);
        }
        for (int l = 0; l < laws; l++) {
            x.law(0, 0, 10, 100);
        }
        return x;
    }

    private OfficeLadder sceneWith(int person, int office, int year) {
        OfficeLadder x = scene();
        x.stone(person, office, year);
        return x;
    }

    private interface Asked {
        long with(int value);
    }

    private interface AskedLong {
        long with(long value);
    }

    /** Values least to most are taken, and answered with due; those beyond are refused with -1. */
    private static void taken(String call, int least, int most, long due, Asked ask) {
        Due.is(call + " with " + least, ask.with(least), due);
        Due.is(call + " with " + most, ask.with(most), due);
        refused(call, least, most, ask);
    }

    private static void refused(String call, int least, int most, Asked ask) {
        int[] beyond = {least - 1, most + 1, MIN, MAX};
        for (int value : beyond) {
            Due.is(call + " with " + value, ask.with(value), -1);
        }
    }

    /** A number of an ORDER is 0 or more. */
    private static void takenNumber(String call, long dueOf0, long dueOfMost, AskedLong ask) {
        Due.is(call + " with 0", ask.with(0L), dueOf0);
        Due.is(call + " with the most", ask.with(Long.MAX_VALUE), dueOfMost);
        Due.is(call + " with -1", ask.with(-1L), -1);
        Due.is(call + " with the least", ask.with(Long.MIN_VALUE), -1);
        // Its lower half alone would be 0 or more.
        Due.is(call + " with a far one below 0", ask.with(-1L << 32), -1);
    }

    // ---- offices, people, laws

    private void offices() {
        taken("office(seats)", 1, 3, offices, v -> scene().office(v, false));
        taken("office(seats), free", 1, 3, offices, v -> scene().office(v, true));
    }

    private void newPeople() {
        taken("person(order)", 0, 1, people, v -> scene().person(v, 0, 0, -1));
        taken("person(first), last 199", -50, 199, people, v -> scene().person(0, v, 199, -1));
        taken("person(first), last 7", -50, 7, people, v -> scene().person(0, v, 7, -1));
        taken("person(first), last -50", -50, -50, people, v -> scene().person(0, v, -50, -1));
        taken("person(last), first -50", -50, 199, people, v -> scene().person(0, -50, v, -1));
        taken("person(last), first 7", 7, 199, people, v -> scene().person(0, 7, v, -1));
        taken("person(last), first 199", 199, 199, people, v -> scene().person(0, 199, v, -1));
        taken("person(father)", -1, people - 1, people, v -> scene().person(0, 0, 0, v));
        taken("person(father) of the first", -1, -1, 0, v -> new OfficeLadder().person(0, 0, 0, v));
    }

    private void lives() {
        taken("death(person)", 0, people - 1, 200, v -> scene().death(v, 50));
        taken("death(year)", 0, 200, 200, v -> scene().death(0, v));
        taken("exile(person)", 0, people - 1, 0, v -> scene().exile(v, 50, 51));
        taken("exile(from), to 199", 0, 199, 0, v -> scene().exile(0, v, 199));
        taken("exile(from), to 0", 0, 199, 0, v -> scene().exile(0, v, 0));
        taken("exile(to), from 0", 0, 199, 0, v -> scene().exile(0, 0, v));
        taken("exile(to), from 199", 0, 199, 0, v -> scene().exile(0, 199, v));
        taken("birth(person)", 0, people - 1, 1, v -> scene().birth(v, 1, 2));
        taken("birth(first), last 199", -50, 199, 1, v -> scene().birth(0, v, 199));
        taken("birth(first), last 7", -50, 7, 1, v -> scene().birth(0, v, 7));
        taken("birth(last), first -50", -50, 199, 1, v -> scene().birth(0, -50, v));
        taken("birth(last), first 7", 7, 199, 1, v -> scene().birth(0, 7, v));
    }

    private void newLaws() {
        refused("law(told)", 0, 59, v -> scene().law(v, 1, 0, 200));
        for (int kind = 0; kind <= 5; kind++) {
            for (int place = 0; place <= 9; place++) {
                int told = 10 * kind + place;
                Due.is("law(" + told + ")", scene().law(told, 1, 0, 200), place <= offices ? laws : -1);
            }
        }
        taken("law(from), to 200", 0, 199, laws, v -> scene().law(0, 0, v, 200));
        taken("law(from), to 7", 0, 6, laws, v -> scene().law(0, 0, v, 7));
        taken("law(from), to 1", 0, 0, laws, v -> scene().law(0, 0, v, 1));
        taken("law(to), from 0", 1, 200, laws, v -> scene().law(0, 0, 0, v));
        taken("law(to), from 7", 8, 200, laws, v -> scene().law(0, 0, 7, v));
        taken("law(to), from 199", 200, 200, laws, v -> scene().law(0, 0, 199, v));
    }

    private void numbersOfLaws() {
        taken("AGE n", 0, 99, laws, v -> scene().law(0, v, 0, 200));
        taken("AFTER o", 0, offices - 1, laws, v -> scene().law(10, v, 0, 200));
        taken("GAP n", 1, 99, laws, v -> scene().law(20, v, 0, 200));
        taken("AGAIN n", 1, 99, laws, v -> scene().law(30, v, 0, 200));
        taken("BAR o", 0, 1, laws, v -> scene().law(40, v, 0, 200));
        int[] any = {MIN, -1, 0, 1, 99, 100, MAX};
        for (int n : any) {
            Due.is("KIN of any n, " + n, scene().law(50, n, 0, 200), laws);
        }
        OfficeLadder x = new OfficeLadder();
        Due.is("AFTER where no office is", x.law(10, 0, 0, 200), -1);
    }

    private void lawsInForce() {
        taken("repeal(law)", 0, laws - 1, 100, v -> scene().repeal(v, 50));
        taken("repeal(year)", 11, 100, 100, v -> scene().repeal(0, v));
        taken("repeal(year), once repealed", 11, 30, 30, v -> {
            OfficeLadder x = scene();
            x.repeal(laws - 1, 30);
            return x.repeal(laws - 1, v);
        });
    }

    // ---- lists

    private void lists() {
        int o = offices - 1;
        int p = people - 1;
        int seats = o % 3 + 1;
        taken("stone(person)", 0, p, 0, v -> scene().stone(v, 0, 50));
        taken("stone(office)", 0, o, 0, v -> scene().stone(0, v, 50));
        taken("stone(year)", 0, 199, 0, v -> scene().stone(0, 0, v));
        taken("empty(office)", 0, o, -3, v -> scene().empty(v, 50, 0));
        taken("empty(year)", 0, 199, -3, v -> scene().empty(o, v, 0));
        taken("empty(seat)", 0, seats - 1, -3, v -> scene().empty(o, 50, v));
        taken("empty(year), held", 0, 199, p, v -> sceneWith(p, o, inYears(v)).empty(o, v, 0));
        taken("annul(office)", 0, o, -3, v -> scene().annul(v, 50, 0, true));
        taken("annul(year)", 0, 199, -3, v -> scene().annul(o, v, 0, false));
        taken("annul(seat)", 0, seats - 1, -3, v -> scene().annul(o, 50, v, true));
        taken("annul(year), held", 0, 199, 1, v -> sceneWith(p, o, inYears(v)).annul(o, v, 0, true));
        taken("seat(office)", 0, o, -2, v -> scene().seat(v, 50, 0));
        taken("seat(year)", 0, 199, -2, v -> scene().seat(o, v, 0));
        taken("seat(seat)", 0, seats - 1, -2, v -> scene().seat(o, 50, v));
        taken("seat(year), held", 0, 199, p, v -> sceneWith(p, o, inYears(v)).seat(o, v, 0));
        taken("holds(person)", 0, p, -2, v -> scene().holds(v, 50));
        taken("holds(year)", 0, 199, -2, v -> scene().holds(p, v));
        taken("holds(year), held", 0, 199, o, v -> sceneWith(p, o, inYears(v)).holds(p, v));
        taken("held(person)", 0, p, 0, v -> scene().held(v, -1, 50));
        taken("held(office)", -1, o, 0, v -> scene().held(p, v, 50));
        taken("held(year)", 0, 199, 0, v -> scene().held(p, o, v));
        taken("held(year), any", 0, 199, 0, v -> scene().held(p, -1, v));
    }

    /** A YEAR for a HOLDING of the scene: a wrong value is for the call that is asked alone. */
    private static int inYears(int value) {
        return value < 0 ? 0 : Math.min(value, 199);
    }

    // ---- laws on lives

    private void lawsOnLives() {
        int o = offices - 1;
        int p = people - 1;
        taken("could(person)", 0, p, 2, v -> scene().could(v, o, 50, 0));
        taken("could(office)", 0, o, 2, v -> scene().could(p, v, 50, 0));
        taken("could(year)", 0, 199, 2, v -> scene().could(p, o, v, 0));
        taken("could(person), bar", 0, p, -2, v -> scene().could(v, o, 50, 1));
        taken("could(office), bar", 0, o, -2, v -> scene().could(p, v, 50, 1));
        taken("could(year), bar", 0, 199, -2, v -> scene().could(p, o, v, 1));
        Due.is("could(what 0)", scene().could(p, o, 50, 0), 2);
        Due.is("could(what 1)", scene().could(p, o, 50, 1), -2);
        refused("could(what)", 0, 1, v -> scene().could(p, o, 50, v));
        taken("first(person)", 0, p, 50, v -> scene().first(v, o, 50, true));
        taken("first(office)", 0, o, 50, v -> scene().first(p, v, 50, false));
        Due.is("first(year 0)", scene().first(p, o, 0, true), 0);
        Due.is("first(year 199)", scene().first(p, o, 199, true), 199);
        refused("first(year), sure", 0, 199, v -> scene().first(p, o, v, true));
        refused("first(year)", 0, 199, v -> scene().first(p, o, v, false));
        taken("who(office)", 0, o, people, v -> scene().who(v, 50, true));
        taken("who(year)", 0, 199, people, v -> scene().who(o, v, true));
        taken("who(year), perhaps", 0, 199, people, v -> scene().who(o, v, false));
    }

    private void breachNumbers() {
        OfficeLadder x = scene();
        for (int p = 0; p < 3; p++) {
            x.death(p, 0);
            x.stone(p, 2, 60 + p);
        }
        Due.is("breaches", x.breaches(), 3);
        Due.is("breach(0)", x.breach(0), 2060);
        Due.is("breach(2), the last", x.breach(2), 2062);
        Due.is("breach(3): not so many", x.breach(3), -3);
        Due.is("breach(most): not so many", x.breach(MAX), -3);
        Due.is("breach(-1)", x.breach(-1), -1);
        Due.is("breach(least)", x.breach(MIN), -1);
        Due.is("breach(0) where none is", scene().breach(0), -3);
        Due.is("breach(-1) where none is", scene().breach(-1), -1);
    }

    private void fillings() {
        // All but one of people are dead, so that but the scene of one OFFICE has a FILLING.
        int o = offices - 1;
        int p = people - 1;
        int due = offices == 1 ? 1 : 0;
        taken("fillings(year)", 0, 199, due, v -> oneLeft().fillings(v));
        taken("fill(year)", 0, 199, offices == 1 ? 1 : -9, v -> oneLeft().fill(v));
        taken("among(person)", 0, p, due, v -> oneLeft().among(v, o, 50));
        taken("among(office)", 0, o, due, v -> oneLeft().among(p, v, 50));
        taken("among(year)", 0, 199, due, v -> oneLeft().among(p, o, v));
    }

    private OfficeLadder oneLeft() {
        OfficeLadder x = scene();
        for (int p = 0; p < people - 1; p++) {
            x.death(p, 0);
        }
        return x;
    }

    // ---- elections and lots

    private static void elections() {
        taken("election(candidates, 1)", 2, 4, 0, v -> new OfficeLadder().election(v, 1));
        taken("election(candidates, 2)", 3, 4, 0, v -> new OfficeLadder().election(v, 2));
        taken("election(2, seats)", 1, 1, 0, v -> new OfficeLadder().election(2, v));
        taken("election(3, seats)", 1, 2, 0, v -> new OfficeLadder().election(3, v));
        taken("election(4, seats)", 1, 2, 0, v -> new OfficeLadder().election(4, v));
        for (int seats = -1; seats <= 3; seats++) {
            Due.is("election(1, " + seats + ")", new OfficeLadder().election(1, seats), -1);
            Due.is("election(5, " + seats + ")", new OfficeLadder().election(5, seats), -1);
        }
    }

    private static OfficeLadder poll(int candidates, int seats) {
        OfficeLadder x = new OfficeLadder();
        x.election(candidates, seats);
        return x;
    }

    private static void ballots() {
        for (int c = 2; c <= 4; c++) {
            for (int s = 1; s <= 2 && s < c; s++) {
                int candidates = c;
                int seats = s;
                int least = (1 << s) - 1;
                int most = least << c - s;
                taken("vote(unit) of " + c, 0, 34, 1, v -> poll(candidates, seats).vote(v, least));
                taken("vote(candidates) of " + c, least, most, 1, v -> poll(candidates, seats).vote(34, v));
                for (int bits = -40; bits <= 40; bits++) {
                    boolean just = bits >= 0 && bits < 1 << c && Integer.bitCount(bits) == s;
                    Due.is(s + " of " + c + ": vote(0, " + bits + ")", poll(c, s).vote(0, bits), just ? 1 : -1);
                }
            }
        }
    }

    private static void counting() {
        Due.is("elected(i 0) of one", poll(4, 1).elected(0L, 0, 0), 0);
        refused("elected(i) of one", 0, 0, v -> poll(4, 1).elected(0L, v, 0));
        Due.is("elected(i 0) of two", poll(4, 2).elected(0L, 0, 0), 0);
        Due.is("elected(i 1) of two", poll(4, 2).elected(0L, 1, 0), 1);
        refused("elected(i) of two", 0, 1, v -> poll(4, 2).elected(0L, v, 0));
        taken("elected(i), after how many", 0, 1, 35, v -> poll(4, 2).elected(0L, v, 1));
        Due.is("elected(what 1)", poll(3, 1).elected(0L, 0, 1), 35);
        refused("elected(what)", 0, 1, v -> poll(3, 1).elected(0L, 0, v));
        takenNumber("elected(number)", 0, 0, v -> poll(3, 1).elected(v, 0, 0));
        takenNumber("elected(number), after how many", 35, 35, v -> poll(3, 1).elected(v, 0, 1));
        takenNumber("sure(number)", 35, 35, v -> poll(3, 1).sure(v));
        int[] due = {0, 0, 0, 0, 0, 0};
        for (int what = 0; what < due.length; what++) {
            Due.is("count(" + what + ")", new OfficeLadder().count(what), due[what]);
        }
        refused("count(what)", 0, 5, v -> new OfficeLadder().count(v));
    }

    private static void drawing() {
        taken("drawn(n)", 1, 35, 0, v -> new OfficeLadder().drawn(v, 0L, 0));
        for (int n = 1; n <= 35; n++) {
            int things = n;
            Due.is("drawn(" + n + ", last place)", new OfficeLadder().drawn(n, 0L, n - 1), n - 1);
            refused("drawn(" + n + ", i)", 0, n - 1, v -> new OfficeLadder().drawn(things, 0L, v));
        }
        takenNumber("drawn(number)", 0, Long.MAX_VALUE % 35, v -> new OfficeLadder().drawn(35, v, 0));
        takenNumber("drawn(number) of one", 0, 0, v -> new OfficeLadder().drawn(1, v, 0));
    }

    private void lots() {
        int o = offices - 1;
        int p = people - 1;
        int seats = o % 3 + 1;
        taken("province(office)", 0, o, -3, v -> scene().province(v, 50, 0, 9, 0L));
        taken("province(year)", 0, 199, -3, v -> scene().province(o, v, 0, 9, 0L));
        taken("province(seat)", 0, seats - 1, -3, v -> scene().province(o, 50, v, 9, 0L));
        taken("province(n), empty", 1, 9, -3, v -> scene().province(o, 50, 0, v, 0L));
        taken("province(n), held", 1, 9, 0, v -> sceneWith(p, o, 50).province(o, 50, 0, v, 0L));
        takenNumber("province(number), empty", -3, -3, v -> scene().province(o, 50, 0, 9, v));
        takenNumber("province(number), held", 0, Long.MAX_VALUE % 9,
            v -> sceneWith(p, o, 50).province(o, 50, 0, 9, v));
    }

    // ---- shelves

    private void shelves() {
        taken("keep(d), nothing", 0, 7, 0, v -> scene().keep(v, 0, 0));
        taken("keep(d), a law", 0, 7, 0, v -> scene().keep(v, 1, 0));
        taken("keep(d), bytes", 0, 7, 0, v -> scene().keep(v, 3, 0));
        taken("keep(d), ints", 0, 7, 0, v -> scene().keep(v, 4, 0));
        taken("keep(law)", 0, laws - 1, 0, v -> scene().keep(0, 1, v));
        taken("keep(office)", 0, offices - 1, 0, v -> scene().keep(0, 3, v));
        taken("keep(person)", 0, people - 1, 0, v -> scene().keep(0, 4, v));
        refused("keep(what)", 0, 4, v -> scene().keep(0, v, 0));
        Due.is("keep(what 2)", scene().keep(0, 2, 0), -1);
        int[] any = {MIN, -1, 0, 24, MAX};
        for (int k : any) {
            Due.is("keep nothing, whatever k, " + k, scene().keep(0, 0, k), 0);
        }
    }

    private static void rows() {
        for (int kind = 3; kind <= 4; kind++) {
            int what = kind;
            taken("make(d) " + what, 0, 7, 0, v -> new OfficeLadder().make(v, what, 60));
            Due.is("make of 0", new OfficeLadder().make(0, what, 0), 0);
            Due.is("make of 60", new OfficeLadder().make(0, what, 60), 0);
            Due.is("make of 61", new OfficeLadder().make(0, what, 61), -1);
            Due.is("make of the most", new OfficeLadder().make(0, what, MAX), -1);
            Due.is("make of -1", new OfficeLadder().make(0, what, -1), -14);
            Due.is("make of the least", new OfficeLadder().make(0, what, MIN), -14);
            int[] sizes = {0, 1, 59, 60};
            for (int n : sizes) {
                elements(what, n);
            }
        }
        taken("make(what)", 3, 4, 0, v -> new OfficeLadder().make(0, v, 1));
        int[] wrongShelves = {-1, 8, MIN, MAX};
        for (int d : wrongShelves) {
            OfficeLadder x = new OfficeLadder();
            Due.element(x, d, 0, "throws.IllegalArgumentException");
            Due.is("weight(" + d + ")", x.weight(d), -1);
            Due.is("toss(" + d + ")", x.toss(d), -1);
        }
        for (int d = 0; d < 8; d++) {
            OfficeLadder x = new OfficeLadder();
            Due.element(x, d, 0, "throws.IllegalStateException");
            Due.is("weight(" + d + ")", x.weight(d), -11);
            Due.is("toss(" + d + ")", x.toss(d), -11);
        }
    }

    private static void elements(int what, int n) {
        OfficeLadder x = new OfficeLadder();
        x.make(5, what, n);
        for (int i = 0; i < n; i++) {
            Due.element(x, 5, i, "0");
        }
        int[] beyond = {-1, n, n + 1, MIN, MAX};
        for (int i : beyond) {
            Due.element(x, 5, i, "throws.IllegalStateException");
        }
    }

    /** A ROW of 9 on SHELF 0, one of 5 on SHELF 7. */
    private static OfficeLadder twoRows(int what) {
        OfficeLadder x = new OfficeLadder();
        x.make(0, what, 9);
        x.make(7, what, 5);
        return x;
    }

    private static void copies() {
        for (int kind = 3; kind <= 4; kind++) {
            int what = kind;
            for (int n = 0; n <= 5; n++) {
                int many = n;
                places("copy(i) of " + n, 0, 9 - n, n, v -> twoRows(what).copy(0, v, 7, 0, many));
                places("copy(j) of " + n, 0, 5 - n, n, v -> twoRows(what).copy(0, 0, 7, v, many));
                places("copy(j) to the longer", 0, 9 - n, n, v -> twoRows(what).copy(7, 0, 0, v, many));
                places("copy(i) of the shorter", 0, 5 - n, n, v -> twoRows(what).copy(7, v, 0, 0, many));
            }
            int[] ends = {-1, 6, MIN, MAX};
            for (int n : ends) {
                Due.is("copy of " + n, twoRows(what).copy(0, 0, 7, 0, n), -13);
                Due.is("copy of " + n, twoRows(what).copy(7, 0, 0, 0, n), -13);
            }
            int[] wrongShelves = {-1, 8, MIN, MAX};
            for (int d : wrongShelves) {
                Due.is("copy from shelf " + d, twoRows(what).copy(d, 0, 7, 0, 1), -1);
                Due.is("copy to shelf " + d, twoRows(what).copy(0, 0, d, 0, 1), -1);
            }
        }
    }

    private static void places(String call, int least, int most, long due, Asked ask) {
        Due.is(call + ", place " + least, ask.with(least), due);
        Due.is(call + ", place " + most, ask.with(most), due);
        int[] beyond = {least - 1, most + 1, MIN, MAX};
        for (int place : beyond) {
            Due.is(call + ", place " + place, ask.with(place), -13);
        }
    }
}
