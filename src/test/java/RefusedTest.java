import java.util.ArrayList;
import java.util.List;

/**
 * Of several refusals the first one is answered, and a refused call changes nothing: after it an
 * object answers all questions as one does that was made alike and not asked that call.
 */
public final class RefusedTest {
    private static final int MIN = Integer.MIN_VALUE;
    private static final int MAX = Integer.MAX_VALUE;
    // Also what an element call that throws is told as.
    private static final long ARGUMENT = 1001;
    private static final long STATE = 1002;

    public static void main(String[] args) {
        for (Scene scene : new Scene[] {RefusedTest::nothing, RefusedTest::some, RefusedTest::full}) {
            List<Long> due = answers(scene.made());
            Due.is("the same calls have the same answers", same(answers(scene.made()), due), 1);
            wrongNumbers(scene, due);
        }
        theQuestionsSeeChanges();
        full(answers(full()));
        lists(answers(some()));
        laws(answers(some()));
        elections(answers(some()));
        shelves(answers(some()));
        fillings();
        Due.end();
    }

    private interface Scene {
        OfficeLadder made();
    }

    private interface Call {
        long on(OfficeLadder x);
    }

    private static void refused(String told, Scene scene, List<Long> due, long refusal, Call call) {
        OfficeLadder x = scene.made();
        Due.is(told, call.on(x), refusal);
        Due.is(told + " changed nothing", same(answers(x), due), 1);
    }

    private static int same(List<Long> got, List<Long> due) {
        return got.equals(due) ? 1 : 0;
    }

    private static OfficeLadder nothing() {
        return new OfficeLadder();
    }

    /** Something of each kind, and something of each on SHELVES 0 to 3. */
    private static OfficeLadder some() {
        OfficeLadder x = new OfficeLadder();
        x.office(2, false);
        x.office(1, true);
        x.person(0, 0, 5, -1);
        x.person(1, 2, 2, 0);
        x.person(0, 3, 30, 0);
        x.person(1, 0, 0, -1);
        x.law(0, 20, 5, 150);
        x.law(51, 7, 0, 200);
        x.law(21, 2, 0, 100);
        x.death(0, 90);
        x.exile(1, 60, 70);
        x.stone(0, 0, 40);
        x.stone(1, 0, 40);
        x.stone(2, 1, 40);
        x.annul(1, 40, 0, true);
        x.stone(2, 0, 41);
        x.stone(0, 1, 41);
        x.election(3, 2);
        x.vote(0, 3);
        x.vote(34, 6);
        x.keep(0, 1, 0);
        x.keep(1, 1, 1);
        x.keep(2, 3, 0);
        x.keep(3, 4, 0);
        x.make(4, 4, 6);
        return x;
    }

    /** As many OFFICES, PEOPLE and LAWS as there can be. */
    private static OfficeLadder full() {
        OfficeLadder x = new OfficeLadder();
        for (int o = 0; o < 8; o++) {
            x.office(1, o == 7);
        }
        for (int p = 0; p < 24; p++) {
            x.person(p % 2, p, p + 3, p - 1);
        }
        for (int l = 0; l < 20; l++) {
            x.law(l % 9, l, 0, 200 - l);
        }
        x.stone(23, 7, 41);
        x.stone(0, 0, 40);
        return x;
    }

    /** Answers of 265 calls in which all that an object holds in these scenes is seen. */
    private static List<Long> answers(OfficeLadder x) {
        List<Long> all = new ArrayList<>();
        seenAlone(x, all);
        seenByChange(x, all);
        return all;
    }

    private static void seenAlone(OfficeLadder x, List<Long> all) {
        for (int what = 0; what <= 5; what++) {
            all.add((long) x.count(what));
        }
        for (int year = 40; year <= 41; year++) {
            for (int s = 0; s < 2; s++) {
                all.add((long) x.seat(0, year, s));
            }
            all.add((long) x.seat(1, year, 0));
            all.add((long) x.seat(7, year, 0));
            for (int p = 0; p < 4; p++) {
                all.add((long) x.holds(p, year));
                all.add((long) x.could(p, 0, year, 1));
            }
        }
        int[] years = {0, 4, 24, 50, 65, 95, 160, 199};
        for (int year : years) {
            for (int p = 0; p < 3; p++) {
                all.add((long) x.could(p, 0, year, 1));
                all.add((long) x.held(p, -1, year));
            }
            all.add((long) x.who(0, year, true));
            all.add((long) x.seat(0, year, 0));
        }
        all.add((long) x.breaches());
        all.add((long) x.breach(0));
        all.add((long) x.fillings(41));
        all.add((long) x.among(1, 0, 41));
        for (int i = 0; i < 2; i++) {
            all.add((long) x.elected(0L, i, 0));
            all.add((long) x.elected(34L, i, 0));
        }
        all.add((long) x.sure(0L));
        for (int d = 0; d < 8; d++) {
            all.add((long) x.weight(d));
            all.add((long) x.toss(d));
            all.add((long) x.copy(d, 0, 2, 0, 0));
            all.add((long) x.copy(d, 0, 4, 0, 0));
            for (int i = 0; i < 7; i++) {
                all.add(element(x, d, i));
            }
        }
        for (int i = 38; i < 43; i++) {
            all.add(element(x, 2, i));
        }
    }

    /** Lives, votes and laws answer with what they were when they are told anew. */
    private static void seenByChange(OfficeLadder x, List<Long> all) {
        for (int p = 0; p < 4; p++) {
            all.add((long) x.keep(5, 4, p));
            for (int i = 0; i < 5; i++) {
                all.add(element(x, 5, i));
            }
        }
        for (int l = 0; l < 4; l++) {
            all.add((long) x.repeal(l, 7));
        }
        for (int unit = 0; unit < 35; unit++) {
            all.add((long) x.vote(unit, 3));
        }
        all.add((long) x.election(3, 2));
        all.add((long) x.fill(41));
        all.add((long) x.count(3));
        all.add((long) x.office(1, false));
        all.add((long) x.person(0, 0, 0, -1));
        all.add((long) x.law(0, 0, 0, 200));
    }

    private static long element(OfficeLadder x, int d, int i) {
        try {
            return x.element(d, i);
        } catch (IllegalArgumentException e) {
            return ARGUMENT;
        } catch (IllegalStateException e) {
            return STATE;
        }
    }

    /** Were the questions blind, nothing would be shown by like answers. */
    private static void theQuestionsSeeChanges() {
        List<Long> due = answers(some());
        Call[] changes = {
            x -> x.office(3, true), x -> x.person(0, 0, 0, -1), x -> x.death(0, 91), x -> x.exile(1, 60, 71),
            x -> x.exile(1, 1, 0), x -> x.birth(2, 3, 29), x -> x.birth(2, 2, 30), x -> x.law(0, 0, 0, 1),
            x -> x.repeal(1, 199), x -> x.stone(0, 0, 199), x -> x.empty(0, 40, 1), x -> x.annul(0, 40, 0, true),
            x -> x.annul(1, 40, 0, false), x -> x.fill(41), x -> x.election(3, 2), x -> x.election(3, 1),
            x -> x.vote(0, 5), x -> x.vote(1, 3), x -> x.keep(0, 0, 0), x -> x.keep(0, 1, 1),
            x -> x.keep(2, 4, 0), x -> x.make(4, 4, 5), x -> x.make(4, 3, 6), x -> x.make(7, 3, 0),
            x -> x.copy(3, 0, 4, 0, 2), x -> x.copy(2, 40, 2, 39, 1),
        };
        for (int k = 0; k < changes.length; k++) {
            OfficeLadder x = some();
            Due.isTrue("change " + k + " is taken", changes[k].on(x) >= 0);
            Due.is("change " + k + " is seen", same(answers(x), due), 0);
        }
    }

    /** What is refused with -1 in any scene: each number of each call out of range in turn. */
    private static void wrongNumbers(Scene scene, List<Long> due) {
        int[] never = {MIN, -2, 200, MAX};
        for (int bad : never) {
            Call[] calls = {
                x -> x.office(bad, false), x -> x.person(bad, 0, 0, -1), x -> x.person(0, bad, -51, -1),
                x -> x.person(0, 199, bad, -1), x -> x.person(0, 0, 0, bad), x -> x.death(bad, 50),
                x -> x.death(0, bad == 200 ? 201 : bad), x -> x.exile(bad, 1, 2), x -> x.exile(0, bad, 199),
                x -> x.exile(0, 0, bad), x -> x.birth(bad, 0, 0), x -> x.birth(0, bad, -51),
                x -> x.birth(0, 199, bad), x -> x.law(bad, 0, 0, 200), x -> x.law(0, bad, 0, 200),
                x -> x.law(0, 0, bad, 200), x -> x.law(0, 0, 0, bad == 200 ? 201 : bad), x -> x.repeal(bad, 50),
                x -> x.repeal(0, bad == 200 ? 201 : bad), x -> x.stone(bad, 0, 199), x -> x.stone(0, bad, 199),
                x -> x.stone(0, 0, bad), x -> x.empty(bad, 40, 0), x -> x.empty(0, bad, 0),
                x -> x.empty(0, 40, bad), x -> x.annul(bad, 40, 0, true), x -> x.annul(0, bad, 0, true),
                x -> x.annul(0, 40, bad, true), x -> x.seat(0, bad, 0), x -> x.holds(0, bad),
                x -> x.held(0, bad, 40), x -> x.could(0, 0, 40, bad), x -> x.first(0, 0, bad, true),
                x -> x.who(0, bad, true), x -> x.fillings(bad), x -> x.fill(bad), x -> x.among(0, 0, bad),
                x -> x.election(bad, 1), x -> x.election(4, bad), x -> x.vote(bad, 1), x -> x.vote(0, bad),
                x -> x.elected(0L, bad, 0), x -> x.elected(0L, 0, bad), x -> x.drawn(bad, 0L, 0),
                x -> x.drawn(35, 0L, bad), x -> x.province(0, 40, 0, bad, 0L), x -> x.count(bad),
                x -> x.keep(bad, 0, 0), x -> x.keep(0, bad, 0), x -> x.keep(0, 1, bad), x -> x.keep(0, 3, bad),
                x -> x.keep(0, 4, bad), x -> x.make(bad, 3, 1), x -> x.make(0, bad, 1),
                x -> x.copy(bad, 0, 0, 0, 0), x -> x.copy(0, 0, bad, 0, 0), x -> x.weight(bad), x -> x.toss(bad),
            };
            for (int k = 0; k < calls.length; k++) {
                refused("wrong call " + k + " with " + bad, scene, due, -1, calls[k]);
            }
            refused("element of no such shelf", scene, due, ARGUMENT, x -> element(x, bad, 0));
        }
        refused("breach(-1)", scene, due, -1, x -> x.breach(-1));
        refused("elected by a number below 0", scene, due, -1, x -> x.elected(-1L, 0, 0));
        refused("sure by a number below 0", scene, due, -1, x -> x.sure(-1L));
        refused("drawn by a number below 0", scene, due, -1, x -> x.drawn(3, -1L, 0));
        refused("a row of 61", scene, due, -1, x -> x.make(0, 3, 61));
        refused("a row of -1", scene, due, -14, x -> x.make(0, 4, -1));
        refused("nothing on the last shelf", scene, due, STATE, x -> element(x, 7, 0));
    }

    /** No more come; and -1 is ahead of -2. */
    private static void full(List<Long> due) {
        refused("a ninth office", RefusedTest::full, due, -2, x -> x.office(1, false));
        refused("a ninth office of no seats", RefusedTest::full, due, -1, x -> x.office(0, false));
        refused("a ninth office of four", RefusedTest::full, due, -1, x -> x.office(4, false));
        refused("a 25th", RefusedTest::full, due, -2, x -> x.person(0, 0, 0, 23));
        refused("a 25th of order 2", RefusedTest::full, due, -1, x -> x.person(2, 0, 0, -1));
        refused("a 25th, first above last", RefusedTest::full, due, -1, x -> x.person(0, 1, 0, -1));
        refused("a 25th, his own son", RefusedTest::full, due, -1, x -> x.person(0, 0, 0, 24));
        refused("a 21st law", RefusedTest::full, due, -2, x -> x.law(50, 0, 0, 200));
        refused("a 21st law of no such kind", RefusedTest::full, due, -1, x -> x.law(60, 0, 0, 200));
        refused("a 21st law of no such office", RefusedTest::full, due, -1, x -> x.law(9, 0, 0, 200));
        refused("a 21st law, n 100", RefusedTest::full, due, -1, x -> x.law(0, 100, 0, 200));
        refused("a 21st law, never in force", RefusedTest::full, due, -1, x -> x.law(0, 0, 7, 7));
    }

    private static void lists(List<Long> due) {
        refused("no empty seat", RefusedTest::some, due, -3, x -> x.stone(2, 0, 40));
        refused("another seat elsewhere", RefusedTest::some, due, -3, x -> x.stone(0, 0, 41));
        refused("a void seat elsewhere", RefusedTest::some, due, -3, x -> x.stone(2, 0, 40));
        refused("another seat of the same", RefusedTest::some, due, -3, x -> x.stone(2, 0, 41));
        refused("full, and no such one", RefusedTest::some, due, -1, x -> x.stone(4, 0, 40));
        refused("full, and no such office", RefusedTest::some, due, -1, x -> x.stone(0, 2, 40));
        refused("empty already", RefusedTest::some, due, -3, x -> x.empty(0, 41, 1));
        refused("empty, no such seat", RefusedTest::some, due, -1, x -> x.empty(0, 41, 2));
        refused("annul what is empty", RefusedTest::some, due, -3, x -> x.annul(0, 41, 1, true));
        refused("annul what is empty, not", RefusedTest::some, due, -3, x -> x.annul(0, 41, 1, false));
        refused("annul, no such seat", RefusedTest::some, due, -1, x -> x.annul(1, 41, 1, true));
        refused("province of an empty seat", RefusedTest::some, due, -3, x -> x.province(0, 41, 1, 9, 0L));
        refused("province of 0, empty", RefusedTest::some, due, -1, x -> x.province(0, 41, 1, 0, 0L));
        refused("province by -1, empty", RefusedTest::some, due, -1, x -> x.province(0, 41, 1, 9, -1L));
        refused("breach, not so many", RefusedTest::some, due, -3, x -> x.breach(MAX));
        refused("held, office -2", RefusedTest::some, due, -1, x -> x.held(0, -2, 40));
    }

    private static void laws(List<Long> due) {
        refused("repeal at its first year", RefusedTest::some, due, -1, x -> x.repeal(0, 5));
        refused("repeal above up to when it is", RefusedTest::some, due, -1, x -> x.repeal(0, 151));
        refused("repeal of a fourth", RefusedTest::some, due, -1, x -> x.repeal(3, 50));
        refused("a law of a third office", RefusedTest::some, due, -1, x -> x.law(3, 0, 0, 200));
        refused("AFTER a third office", RefusedTest::some, due, -1, x -> x.law(10, 2, 0, 200));
        refused("GAP 0", RefusedTest::some, due, -1, x -> x.law(20, 0, 0, 200));
        refused("AGAIN 0", RefusedTest::some, due, -1, x -> x.law(30, 0, 0, 200));
        refused("BAR 2", RefusedTest::some, due, -1, x -> x.law(40, 2, 0, 200));
        refused("KIN never in force", RefusedTest::some, due, -1, x -> x.law(50, 0, 9, 8));
        refused("birth, first above last", RefusedTest::some, due, -1, x -> x.birth(0, 1, 0));
        refused("death of a fifth", RefusedTest::some, due, -1, x -> x.death(4, 1));
        refused("exile of a fifth", RefusedTest::some, due, -1, x -> x.exile(4, 1, 0));
    }

    private static void elections(List<Long> due) {
        refused("as many seats as candidates", RefusedTest::some, due, -1, x -> x.election(2, 2));
        refused("five candidates", RefusedTest::some, due, -1, x -> x.election(5, 2));
        refused("no seats", RefusedTest::some, due, -1, x -> x.election(2, 0));
        refused("a vote for one of two", RefusedTest::some, due, -1, x -> x.vote(0, 1));
        refused("a vote for three", RefusedTest::some, due, -1, x -> x.vote(0, 7));
        refused("a vote for a fourth", RefusedTest::some, due, -1, x -> x.vote(0, 9));
        refused("a vote of unit 35", RefusedTest::some, due, -1, x -> x.vote(35, 3));
        refused("a third elected one", RefusedTest::some, due, -1, x -> x.elected(0L, 2, 0));
    }

    /** SHELVES 0, 1: LAWS AGE, KIN; 2: 200 bytes; 3, 4: 5 and 6 ints; 5 to 7: nothing. */
    private static void shelves(List<Long> due) {
        refused("keep a fourth law", RefusedTest::some, due, -1, x -> x.keep(2, 1, 3));
        refused("keep a third office", RefusedTest::some, due, -1, x -> x.keep(3, 3, 2));
        refused("keep a fifth life", RefusedTest::some, due, -1, x -> x.keep(2, 4, 4));
        refused("keep of kind 2", RefusedTest::some, due, -1, x -> x.keep(2, 2, 0));
        refused("make over a law", RefusedTest::some, due, -14, x -> x.make(0, 3, -1));
        refused("make over a row", RefusedTest::some, due, -14, x -> x.make(2, 4, MIN));
        refused("make of a law", RefusedTest::some, due, -1, x -> x.make(2, 1, 1));
        refused("make of -1, of no kind", RefusedTest::some, due, -1, x -> x.make(2, 2, -1));
        refused("make of -1, no such shelf", RefusedTest::some, due, -1, x -> x.make(8, 3, -1));
        refused("copy, no such shelf, nothing", RefusedTest::some, due, -1, x -> x.copy(7, 0, 8, 0, -1));
        refused("copy from nothing to a law", RefusedTest::some, due, -11, x -> x.copy(7, 0, 0, 0, -1));
        refused("copy from a law to nothing", RefusedTest::some, due, -11, x -> x.copy(0, 0, 7, 0, -1));
        refused("copy from nothing to a row", RefusedTest::some, due, -11, x -> x.copy(7, 0, 2, 0, 1));
        refused("copy from a row to nothing", RefusedTest::some, due, -11, x -> x.copy(2, 0, 7, 0, 1));
        refused("copy from a law", RefusedTest::some, due, -12, x -> x.copy(0, 0, 2, 0, -1));
        refused("copy to a law", RefusedTest::some, due, -12, x -> x.copy(2, 0, 1, 0, -1));
        refused("copy from a law to a law", RefusedTest::some, due, -12, x -> x.copy(0, 0, 1, 0, 0));
        refused("copy from bytes to ints", RefusedTest::some, due, -12, x -> x.copy(2, 0, 3, 0, -1));
        refused("copy from ints to bytes", RefusedTest::some, due, -12, x -> x.copy(3, 0, 2, 0, 1));
        refused("copy beyond the target", RefusedTest::some, due, -13, x -> x.copy(4, 0, 3, 0, 6));
        refused("copy beyond the source", RefusedTest::some, due, -13, x -> x.copy(3, 0, 4, 0, 6));
        refused("copy from -1", RefusedTest::some, due, -13, x -> x.copy(3, -1, 4, 0, 2));
        refused("copy to -1", RefusedTest::some, due, -13, x -> x.copy(3, 0, 4, -1, 2));
        refused("copy of -1", RefusedTest::some, due, -13, x -> x.copy(3, 1, 4, 1, -1));
        refused("copy over itself beyond", RefusedTest::some, due, -13, x -> x.copy(3, 0, 3, 1, 5));
        refused("copy far", RefusedTest::some, due, -13, x -> x.copy(2, 1, 2, 1, MAX));
        refused("weight of nothing", RefusedTest::some, due, -11, x -> x.weight(7));
        refused("weight of bytes", RefusedTest::some, due, -12, x -> x.weight(2));
        refused("weight of ints", RefusedTest::some, due, -12, x -> x.weight(3));
        refused("toss of nothing", RefusedTest::some, due, -11, x -> x.toss(7));
        refused("toss of bytes", RefusedTest::some, due, -12, x -> x.toss(2));
        refused("toss of ints", RefusedTest::some, due, -12, x -> x.toss(3));
        refused("toss of AGE", RefusedTest::some, due, -15, x -> x.toss(0));
        refused("element of a law", RefusedTest::some, due, STATE, x -> element(x, 0, 0));
        refused("element beyond the row", RefusedTest::some, due, STATE, x -> element(x, 3, 5));
        refused("element -1", RefusedTest::some, due, STATE, x -> element(x, 2, -1));
    }

    private static OfficeLadder noOneIsAble() {
        OfficeLadder x = some();
        x.law(40, 0, 120, 121);
        x.law(40, 1, 120, 121);
        return x;
    }

    /** 24 people, 3 offices, and none of them for the last: SPENT ahead of any FILLING. */
    private static OfficeLadder tooManyTries() {
        OfficeLadder x = some();
        x.office(3, false);
        x.office(3, false);
        x.office(1, false);
        for (int p = 4; p < 24; p++) {
            x.person(0, 0, 0, -1);
        }
        x.law(45, 0, 120, 121);
        x.law(45, 1, 120, 121);
        return x;
    }

    private static void fillings() {
        List<Long> none = answers(noOneIsAble());
        refused("there is no filling", RefusedTest::noOneIsAble, none, -9, x -> x.fill(120));
        List<Long> spent = answers(tooManyTries());
        refused("spent, fillings", RefusedTest::tooManyTries, spent, -8, x -> x.fillings(120));
        refused("spent, fill", RefusedTest::tooManyTries, spent, -8, x -> x.fill(120));
        refused("spent, among", RefusedTest::tooManyTries, spent, -8, x -> x.among(3, 2, 120));
        refused("spent, but no such one", RefusedTest::tooManyTries, spent, -1, x -> x.among(24, 2, 120));
        refused("spent, but no such office", RefusedTest::tooManyTries, spent, -1, x -> x.among(0, 5, 120));
    }
}
