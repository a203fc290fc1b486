import java.util.Arrays;

/**
 * A ladder of offices: a republic's yearly posts, the laws on who may hold them, lists with gaps
 * and what may fill them, elections by units in a drawn order, and provinces by lot.
 * The numbered promises stand in ../shared/DOC.md; README.md says how to use the class.
 */
public final class OfficeLadder {
    private static final int YEARS = 200;
    private static final int MOST_OFFICES = 8;
    private static final int MOST_SEATS = 3;
    private static final int MOST_PEOPLE = 24;
    private static final int MOST_LAWS = 20;
    private static final int MOST_EMPTY = MOST_OFFICES * MOST_SEATS;
    private static final int MOST_TRIES = 20000;
    private static final int EARLIEST_BIRTH = -50;
    private static final int MOST_N = 99;

    private static final int UNITS = 35;
    private static final int MAJORITY = 18;
    private static final int MOST_CANDIDATES = 4;
    private static final int MOST_ELECTED = 2;
    private static final int MOST_PROVINCES = 9;

    private static final int SHELVES = 8;
    private static final int LONGEST_MADE = 60;

    // What a SHELF holds; also how keep and make are told what to put there.
    private static final int NOTHING = 0;
    private static final int A_LAW = 1;
    private static final int BYTES = 3;
    private static final int INTS = 4;

    private static final int AGE = 0;
    private static final int AFTER = 1;
    private static final int GAP = 2;
    private static final int AGAIN = 3;
    private static final int BAR = 4;
    private static final int KIN = 5;

    private static final int NOT = 0;
    private static final int PERHAPS = 1;
    private static final int SURELY = 2;

    private static final int WRONG = -1;
    private static final int NONE = -2;
    private static final int FULL = -2;
    private static final int SEAT_REFUSED = -3;
    private static final int DEAD = -4;
    private static final int UNBORN = -5;
    private static final int EXILED = -6;
    private static final int SEATED = -7;
    private static final int SPENT = -8;
    private static final int NO_FILLING = -9;
    private static final int NOTHING_HELD = -11;
    private static final int OTHER_KIND = -12;
    private static final int NO_PLACE = -13;
    private static final int SIZE_BELOW_0 = -14;
    private static final int NO_FAILURE = -15;

    // In rows of seats and of posts: no one, or nothing; and what a VOID holding has more.
    private static final int EMPTY = -1;
    private static final int VOID_MARK = 100;

    private static final int NO_ONE = -1;
    private static final int ANY_OFFICE = -1;

    private final Republic republic = new Republic();
    private final Filler filler = new Filler();
    private final Election poll = new Election();
    private final Shelf[] shelves = new Shelf[SHELVES];
    private final int[] lots = new int[UNITS];

    public OfficeLadder() {
        for (int d = 0; d < SHELVES; d++) {
            shelves[d] = new Shelf();
        }
    }

    // ---- offices, people, laws

    public int office(int seats, boolean free) {
        if (seats < 1 || seats > MOST_SEATS) {
            return WRONG;
        }
        if (republic.officeCount >= MOST_OFFICES) {
            return FULL;
        }
        return republic.addOffice(new Office(seats, free));
    }

    public int person(int order, int first, int last, int father) {
        if (!isOrder(order) || !isBirth(first, last)) {
            return WRONG;
        }
        if (father != NO_ONE && !republic.hasPerson(father)) {
            return WRONG;
        }
        if (republic.personCount >= MOST_PEOPLE) {
            return FULL;
        }
        return republic.addPerson(new Person(order, first, last, father));
    }

    public int death(int person, int year) {
        if (!republic.hasPerson(person) || year < 0 || year > YEARS) {
            return WRONG;
        }
        Person who = republic.people[person];
        int before = who.death;
        who.death = year;
        return before;
    }

    public int exile(int person, int from, int to) {
        if (!republic.hasPerson(person) || !isYear(from) || !isYear(to)) {
            return WRONG;
        }
        Person who = republic.people[person];
        int before = who.hasExile() ? 1 : 0;
        who.setExile(from, to);
        return before;
    }

    public int birth(int person, int first, int last) {
        if (!republic.hasPerson(person) || !isBirth(first, last)) {
            return WRONG;
        }
        Person who = republic.people[person];
        boolean same = who.first == first && who.last == last;
        who.first = first;
        who.last = last;
        return same ? 0 : 1;
    }

    public int law(int told, int n, int from, int to) {
        if (told < 0 || told / 10 > KIN || !isYear(from) || to <= from || to > YEARS) {
            return WRONG;
        }
        int kind = told / 10;
        int office = told % 10 - 1;
        if (office != ANY_OFFICE && !republic.hasOffice(office)) {
            return WRONG;
        }
        if (!republic.isNumberOf(kind, n)) {
            return WRONG;
        }
        if (republic.lawCount >= MOST_LAWS) {
            return FULL;
        }
        return republic.addLaw(new Law(republic.lawCount, kind, office, n, from, to));
    }

    public int repeal(int law, int year) {
        if (!republic.hasLaw(law)) {
            return WRONG;
        }
        Law repealed = republic.laws[law];
        if (year <= repealed.from || year > repealed.to) {
            return WRONG;
        }
        int before = repealed.to;
        repealed.to = year;
        return before;
    }

    // ---- lists

    public int stone(int person, int office, int year) {
        if (!republic.hasPerson(person) || !republic.hasOffice(office) || !isYear(year)) {
            return WRONG;
        }
        int seat = republic.offices[office].firstEmpty(year);
        if (seat == EMPTY || republic.people[person].posts[year] != EMPTY) {
            return SEAT_REFUSED;
        }
        republic.put(person, office, year, seat);
        return seat;
    }

    public int empty(int office, int year, int seat) {
        if (!republic.hasSeat(office, year, seat)) {
            return WRONG;
        }
        int who = republic.offices[office].holder(year, seat);
        if (who == EMPTY) {
            return SEAT_REFUSED;
        }
        republic.vacate(who, office, year, seat);
        return who;
    }

    public int annul(int office, int year, int seat, boolean is) {
        if (!republic.hasSeat(office, year, seat)) {
            return WRONG;
        }
        int who = republic.offices[office].holder(year, seat);
        if (who == EMPTY) {
            return SEAT_REFUSED;
        }
        if (republic.offices[office].isVoid(year, seat) == is) {
            return 0;
        }
        republic.mark(who, office, year, seat, is);
        return 1;
    }

    public int seat(int office, int year, int seat) {
        if (!republic.hasSeat(office, year, seat)) {
            return WRONG;
        }
        int code = republic.offices[office].code(year, seat);
        return code == EMPTY ? NONE : code;
    }

    public int holds(int person, int year) {
        if (!republic.hasPerson(person) || !isYear(year)) {
            return WRONG;
        }
        int post = republic.people[person].posts[year];
        return post == EMPTY ? NONE : post % VOID_MARK;
    }

    public int held(int person, int office, int year) {
        if (!republic.hasPerson(person) || !isYear(year)) {
            return WRONG;
        }
        if (office != ANY_OFFICE && !republic.hasOffice(office)) {
            return WRONG;
        }
        return republic.people[person].yearsHeld(office, year);
    }

    // ---- laws on lives

    public int could(int person, int office, int year, int what) {
        if (!republic.hasPerson(person) || !republic.hasOffice(office) || !isYear(year)) {
            return WRONG;
        }
        if (what == 0) {
            return republic.level(person, office, year);
        }
        return what == 1 ? republic.firstBar(person, office, year, true) : WRONG;
    }

    public int first(int person, int office, int year, boolean sure) {
        if (!republic.hasPerson(person) || !republic.hasOffice(office) || !isYear(year)) {
            return WRONG;
        }
        int wanted = sure ? SURELY : PERHAPS;
        for (int y = year; y < YEARS; y++) {
            if (republic.level(person, office, y) >= wanted) {
                return y;
            }
        }
        return NONE;
    }

    public int who(int office, int year, boolean sure) {
        if (!republic.hasOffice(office) || !isYear(year)) {
            return WRONG;
        }
        int wanted = sure ? SURELY : PERHAPS;
        int count = 0;
        for (int p = 0; p < republic.personCount; p++) {
            if (republic.level(p, office, year) >= wanted) {
                count++;
            }
        }
        return count;
    }

    public int breaches() {
        int count = 0;
        for (int year = 0; year < YEARS; year++) {
            for (int o = 0; o < republic.officeCount; o++) {
                count += republic.breachesIn(o, year);
            }
        }
        return count;
    }

    public int breach(int i) {
        if (i < 0) {
            return WRONG;
        }
        int ahead = 0;
        for (int year = 0; year < YEARS; year++) {
            for (int o = 0; o < republic.officeCount; o++) {
                ahead += republic.breachesIn(o, year);
                if (ahead > i) {
                    return 1000 * o + year;
                }
            }
        }
        return SEAT_REFUSED;
    }

    public int fillings(int year) {
        if (!isYear(year)) {
            return WRONG;
        }
        filler.search(republic, year, NO_ONE, ANY_OFFICE, false);
        return filler.spent ? SPENT : filler.found;
    }

    public int fill(int year) {
        if (!isYear(year)) {
            return WRONG;
        }
        filler.search(republic, year, NO_ONE, ANY_OFFICE, true);
        if (filler.spent) {
            return SPENT;
        }
        if (filler.found == 0) {
            return NO_FILLING;
        }
        filler.putIn(republic, year);
        return filler.slots;
    }

    public int among(int person, int office, int year) {
        if (!republic.hasPerson(person) || !republic.hasOffice(office) || !isYear(year)) {
            return WRONG;
        }
        filler.search(republic, year, person, office, false);
        return filler.spent ? SPENT : filler.hits;
    }

    // ---- elections and lots

    public int election(int candidates, int seats) {
        if (candidates < 2 || candidates > MOST_CANDIDATES) {
            return WRONG;
        }
        if (seats < 1 || seats > MOST_ELECTED || seats >= candidates) {
            return WRONG;
        }
        int before = poll.voted;
        poll.open(candidates, seats);
        return before;
    }

    public int vote(int unit, int candidates) {
        if (unit < 0 || unit >= UNITS || !poll.isBallot(candidates)) {
            return WRONG;
        }
        return poll.take(unit, candidates) ? 1 : 0;
    }

    public int elected(long number, int i, int what) {
        if (number < 0 || i < 0 || i >= poll.seats || what < 0 || what > 1) {
            return WRONG;
        }
        poll.run(number);
        return what == 0 ? poll.winners[i] : poll.after[i];
    }

    public int sure(long number) {
        return number < 0 ? WRONG : poll.sureAfter(number);
    }

    public int drawn(int n, long number, int i) {
        if (n < 1 || n > UNITS || number < 0 || i < 0 || i >= n) {
            return WRONG;
        }
        draw(lots, n, number);
        return lots[i];
    }

    public int province(int office, int year, int seat, int n, long number) {
        if (!republic.hasSeat(office, year, seat) || n < 1 || n > MOST_PROVINCES || number < 0) {
            return WRONG;
        }
        Office of = republic.offices[office];
        if (of.holder(year, seat) == EMPTY) {
            return SEAT_REFUSED;
        }
        int place = of.heldAhead(year, seat);
        if (place >= n) {
            return NONE;
        }
        draw(lots, n, number);
        return lots[place];
    }

    public int count(int what) {
        switch (what) {
            case 0:
                return republic.officeCount;
            case 1:
                return republic.personCount;
            case 2:
                return republic.lawCount;
            case 3:
                return republic.heldSeats;
            case 4:
                return republic.voidSeats;
            case 5:
                return poll.voted;
            default:
                return WRONG;
        }
    }

    public int keep(int d, int what, int k) {
        if (!isShelf(d)) {
            return WRONG;
        }
        Shelf shelf = shelves[d];
        if (what == NOTHING) {
            shelf.clear();
        } else if (what == A_LAW && republic.hasLaw(k)) {
            shelf.keepLaw(republic.laws[k]);
        } else if (what == BYTES && republic.hasOffice(k)) {
            shelf.keepHolders(republic.offices[k]);
        } else if (what == INTS && republic.hasPerson(k)) {
            shelf.keepLife(republic.people[k]);
        } else {
            return WRONG;
        }
        return 0;
    }

    public int make(int d, int what, int n) {
        if (!isShelf(d) || what != BYTES && what != INTS || n > LONGEST_MADE) {
            return WRONG;
        }
        if (n < 0) {
            return SIZE_BELOW_0;
        }
        shelves[d].keepZeros(what, n);
        return 0;
    }

    public long element(int d, int i) throws IllegalArgumentException, IllegalStateException {
        if (!isShelf(d)) {
            throw new IllegalArgumentException("no such shelf");
        }
        Shelf shelf = shelves[d];
        if (!shelf.isRow()) {
            throw new IllegalStateException("no row is held");
        }
        if (i < 0 || i >= shelf.length) {
            throw new IllegalStateException("the row has no such place");
        }
        return shelf.at(i);
    }

    public int copy(int d, int i, int e, int j, int n) {
        if (!isShelf(d) || !isShelf(e)) {
            return WRONG;
        }
        Shelf source = shelves[d];
        Shelf target = shelves[e];
        if (source.kind == NOTHING || target.kind == NOTHING) {
            return NOTHING_HELD;
        }
        if (!source.isRow() || source.kind != target.kind) {
            return OTHER_KIND;
        }
        if (!source.hasSpan(i, n) || !target.hasSpan(j, n)) {
            return NO_PLACE;
        }
        source.copyTo(target, i, j, n);
        return n;
    }

    public int weight(int d) {
        int refusal = refusalOfLaw(d);
        return refusal != 0 ? refusal : shelves[d].law.heft();
    }

    public int toss(int d) {
        int refusal = refusalOfLaw(d);
        if (refusal != 0) {
            return refusal;
        }
        Law tossed = shelves[d].law;
        try {
            tossed.fail();
        } catch (IllegalStateException failure) {
            return tossed.number;
        }
        return NO_FAILURE;
    }

    // ---- what the calls have in common

    private int refusalOfLaw(int d) {
        if (!isShelf(d)) {
            return WRONG;
        }
        if (shelves[d].kind == NOTHING) {
            return NOTHING_HELD;
        }
        return shelves[d].law == null ? OTHER_KIND : 0;
    }

    private static boolean isYear(int year) {
        return year >= 0 && year < YEARS;
    }

    private static boolean isOrder(int order) {
        return order == 0 || order == 1;
    }

    private static boolean isBirth(int first, int last) {
        return first >= EARLIEST_BIRTH && first <= last && last < YEARS;
    }

    private static boolean isShelf(int d) {
        return d >= 0 && d < SHELVES;
    }

    /** Puts the ORDER of n things by a number into the first n places of a row that has them. */
    private static void draw(int[] row, int n, long number) {
        for (int k = 0; k < n; k++) {
            row[k] = k;
        }
        long rest = number;
        for (int k = 0; k < n; k++) {
            int left = n - k;
            int at = k + (int) (rest % left);
            rest = rest / left;
            int next = row[at];
            // Those passed over move up by one, so that the ones left stay by numbers.
            for (int m = at; m > k; m--) {
                row[m] = row[m - 1];
            }
            row[k] = next;
        }
    }

    /** An OFFICE with its LISTS: for each YEAR and SEAT who holds it, VOID_MARK more if VOID. */
    private static final class Office {
        final int seats;
        final boolean free;
        private final byte[] codes;

        Office(int seats, boolean free) {
            this.seats = seats;
            this.free = free;
            codes = new byte[YEARS * seats];
            Arrays.fill(codes, (byte) EMPTY);
        }

        int code(int year, int seat) {
            return codes[year * seats + seat];
        }

        void setCode(int year, int seat, int code) {
            codes[year * seats + seat] = (byte) code;
        }

        int holder(int year, int seat) {
            int code = code(year, seat);
            return code == EMPTY ? EMPTY : code % VOID_MARK;
        }

        boolean isVoid(int year, int seat) {
            return code(year, seat) >= VOID_MARK;
        }

        int firstEmpty(int year) {
            for (int s = 0; s < seats; s++) {
                if (code(year, s) == EMPTY) {
                    return s;
                }
            }
            return EMPTY;
        }

        int heldAhead(int year, int seat) {
            int count = 0;
            for (int s = 0; s < seat; s++) {
                if (code(year, s) != EMPTY) {
                    count++;
                }
            }
            return count;
        }

        /** Those who HOLD it by laws (VOID ones left out), a bit each. */
        int holders(int year) {
            int bits = 0;
            for (int s = 0; s < seats; s++) {
                int code = code(year, s);
                if (code != EMPTY && code < VOID_MARK) {
                    bits |= 1 << code;
                }
            }
            return bits;
        }
    }

    /** One of PEOPLE, with the post of each YEAR: an OFFICE, VOID_MARK more if VOID. */
    private static final class Person {
        final int order;
        final int father;
        final byte[] posts = new byte[YEARS];
        int first;
        int last;
        int death = YEARS;
        int exileFrom = 0;
        int exileTo = -1;
        // Father, children and brothers, a bit each.
        int kin = 0;

        Person(int order, int first, int last, int father) {
            this.order = order;
            this.first = first;
            this.last = last;
            this.father = father;
            Arrays.fill(posts, (byte) EMPTY);
        }

        boolean hasExile() {
            return exileFrom <= exileTo;
        }

        void setExile(int from, int to) {
            boolean some = from <= to;
            exileFrom = some ? from : 0;
            exileTo = some ? to : -1;
        }

        int yearsHeld(int office, int year) {
            int count = 0;
            for (int y = 0; y < year; y++) {
                int post = posts[y];
                if (post != EMPTY && (office == ANY_OFFICE ? post < VOID_MARK : post == office)) {
                    count++;
                }
            }
            return count;
        }
    }

    /** What LAWS on LISTS ask of one who would hold an OFFICE in a YEAR; one pass serves them all. */
    private static final class Past {
        int officesHeld;
        int lastHeld;
        int lastHeldHere;
        boolean kinHolds;

        void look(Person who, Office here, int office, int year) {
            officesHeld = 0;
            lastHeld = EMPTY;
            lastHeldHere = EMPTY;
            for (int y = 0; y < year; y++) {
                int post = who.posts[y];
                if (post != EMPTY && post < VOID_MARK) {
                    officesHeld |= 1 << post;
                    lastHeld = y;
                    lastHeldHere = post == office ? y : lastHeldHere;
                }
            }
            kinHolds = (who.kin & here.holders(year)) != 0;
        }
    }

    private static final class Law {
        final int number;
        final int kind;
        final int office;
        final int n;
        final int from;
        int to;

        Law(int number, int kind, int office, int n, int from, int to) {
            this.number = number;
            this.kind = kind;
            this.office = office;
            this.n = n;
            this.from = from;
            this.to = to;
        }

        boolean binds(int wanted, int year) {
            return (office == ANY_OFFICE || office == wanted) && from <= year && year < to;
        }

        boolean bars(Person who, int year, Past past) {
            switch (kind) {
                case AGE:
                    return year - who.first < n;
                case AFTER:
                    return (past.officesHeld >> n & 1) == 0;
                case GAP:
                    return past.lastHeld != EMPTY && year - past.lastHeld <= n;
                case AGAIN:
                    return past.lastHeldHere != EMPTY && year - past.lastHeldHere <= n;
                case BAR:
                    return who.order == n;
                default:
                    return past.kinHolds;
            }
        }

        boolean leavesDoubt(Person who, int year) {
            return kind == AGE && year - who.last < n;
        }

        boolean looksAtLists() {
            return kind != AGE && kind != BAR;
        }

        int heft() {
            int heft = 10 + kind;
            if (kind != KIN) {
                heft += 100 + n;
            }
            if (looksAtLists()) {
                heft += 1000;
            }
            return kind == GAP || kind == AGAIN ? 2 * heft : heft;
        }

        void fail() {
            if (looksAtLists()) {
                throw new IllegalStateException("the law is not kept");
            }
        }
    }

    /** OFFICES, PEOPLE, LAWS and LISTS; its methods take numbers that the has-methods passed. */
    private static final class Republic {
        final Office[] offices = new Office[MOST_OFFICES];
        final Person[] people = new Person[MOST_PEOPLE];
        final Law[] laws = new Law[MOST_LAWS];
        int officeCount = 0;
        int personCount = 0;
        int lawCount = 0;
        int heldSeats = 0;
        int voidSeats = 0;
        private final Past past = new Past();

        boolean hasOffice(int office) {
            return office >= 0 && office < officeCount;
        }

        boolean hasPerson(int person) {
            return person >= 0 && person < personCount;
        }

        boolean hasLaw(int law) {
            return law >= 0 && law < lawCount;
        }

        boolean hasSeat(int office, int year, int seat) {
            return hasOffice(office) && isYear(year) && seat >= 0 && seat < offices[office].seats;
        }

        boolean isNumberOf(int kind, int n) {
            switch (kind) {
                case AGE:
                    return n >= 0 && n <= MOST_N;
                case AFTER:
                    return hasOffice(n);
                case GAP:
                case AGAIN:
                    return n >= 1 && n <= MOST_N;
                case BAR:
                    return isOrder(n);
                default:
                    return true;
            }
        }

        int addOffice(Office office) {
            offices[officeCount] = office;
            officeCount++;
            return officeCount - 1;
        }

        int addLaw(Law law) {
            laws[lawCount] = law;
            lawCount++;
            return lawCount - 1;
        }

        int addPerson(Person who) {
            int number = personCount;
            people[number] = who;
            personCount++;
            if (who.father != NO_ONE) {
                tie(number, who.father);
                for (int p = 0; p < number; p++) {
                    if (people[p].father == who.father) {
                        tie(number, p);
                    }
                }
            }
            return number;
        }

        private void tie(int one, int other) {
            people[one].kin |= 1 << other;
            people[other].kin |= 1 << one;
        }

        void put(int person, int office, int year, int seat) {
            offices[office].setCode(year, seat, person);
            people[person].posts[year] = (byte) office;
            heldSeats++;
        }

        void vacate(int person, int office, int year, int seat) {
            if (offices[office].isVoid(year, seat)) {
                voidSeats--;
            }
            offices[office].setCode(year, seat, EMPTY);
            people[person].posts[year] = (byte) EMPTY;
            heldSeats--;
        }

        /** Makes a HOLDING that is not so yet VOID, or not VOID. */
        void mark(int person, int office, int year, int seat, boolean isVoid) {
            int more = isVoid ? VOID_MARK : 0;
            offices[office].setCode(year, seat, person + more);
            people[person].posts[year] = (byte) (office + more);
            voidSeats += isVoid ? 1 : -1;
        }

        /**
         * The first BAR, or NONE. A SEAT that one holds in that YEAR is all that a look without
         * one's own HOLDING changes: one has one SEAT a YEAR at most, KIN are others, and the
         * other LAWS look at earlier YEARS.
         */
        int firstBar(int person, int office, int year, boolean withOwnSeat) {
            Person who = people[person];
            if (year >= who.death) {
                return DEAD;
            }
            if (year < who.first) {
                return UNBORN;
            }
            if (year >= who.exileFrom && year <= who.exileTo) {
                return EXILED;
            }
            if (withOwnSeat && who.posts[year] != EMPTY) {
                return SEATED;
            }
            if (offices[office].free) {
                return NONE;
            }
            past.look(who, offices[office], office, year);
            for (int l = 0; l < lawCount; l++) {
                if (laws[l].binds(office, year) && laws[l].bars(who, year, past)) {
                    return l;
                }
            }
            return NONE;
        }

        int level(int person, int office, int year) {
            if (firstBar(person, office, year, true) != NONE) {
                return NOT;
            }
            if (offices[office].free) {
                return SURELY;
            }
            for (int l = 0; l < lawCount; l++) {
                if (laws[l].binds(office, year) && laws[l].leavesDoubt(people[person], year)) {
                    return PERHAPS;
                }
            }
            return SURELY;
        }

        int breachesIn(int office, int year) {
            Office of = offices[office];
            int count = 0;
            for (int s = 0; s < of.seats; s++) {
                int code = of.code(year, s);
                if (code != EMPTY && code < VOID_MARK && firstBar(code, office, year, false) != NONE) {
                    count++;
                }
            }
            return count;
        }

        boolean kinLawBinds(int office, int year) {
            if (offices[office].free) {
                return false;
            }
            for (int l = 0; l < lawCount; l++) {
                if (laws[l].kind == KIN && laws[l].binds(office, year)) {
                    return true;
                }
            }
            return false;
        }
    }

    /**
     * Looks for the FILLINGS of a YEAR. Those put in change what another COULD in two ways only:
     * one who was put in has a SEAT, and KIN of one put into the OFFICE may be barred. So LISTS
     * are looked at once for all (able), and those two at each TRY. Both hold of either side
     * alike, so the look at all of them at the end can't fail where each TRY was taken.
     */
    private static final class Filler {
        int slots;
        int found;
        int hits;
        boolean spent;
        private int tries;
        private boolean onlyFirst;
        private int askedPerson;
        private int askedOffice;
        private int seated;
        private final int[] slotOffice = new int[MOST_EMPTY];
        private final int[] slotSeat = new int[MOST_EMPTY];
        private final int[] chosen = new int[MOST_EMPTY];
        private final int[] able = new int[MOST_OFFICES];
        private final boolean[] kinBound = new boolean[MOST_OFFICES];
        private final int[] putInto = new int[MOST_OFFICES];

        /** Finds all FILLINGS, or the first; hits are those with that person put into that OFFICE. */
        void search(Republic republic, int year, int person, int office, boolean stopAtFirst) {
            askedPerson = person;
            askedOffice = office;
            onlyFirst = stopAtFirst;
            found = 0;
            hits = 0;
            tries = 0;
            spent = false;
            seated = 0;
            slots = 0;
            for (int o = 0; o < republic.officeCount; o++) {
                putInto[o] = 0;
                addSlots(republic.offices[o], o, year);
                kinBound[o] = republic.kinLawBinds(o, year);
                able[o] = ableIn(republic, o, year);
            }
            place(republic, 0);
        }

        /** Puts in the FILLING at which a search stopped. */
        void putIn(Republic republic, int year) {
            for (int k = 0; k < slots; k++) {
                republic.put(chosen[k], slotOffice[k], year, slotSeat[k]);
            }
        }

        private void addSlots(Office of, int office, int year) {
            for (int s = 0; s < of.seats; s++) {
                if (of.code(year, s) == EMPTY) {
                    slotOffice[slots] = office;
                    slotSeat[slots] = s;
                    slots++;
                }
            }
        }

        private static int ableIn(Republic republic, int office, int year) {
            int bits = 0;
            if (republic.offices[office].firstEmpty(year) == EMPTY) {
                return bits;
            }
            for (int p = 0; p < republic.personCount; p++) {
                if (republic.firstBar(p, office, year, true) == NONE) {
                    bits |= 1 << p;
                }
            }
            return bits;
        }

        // A level for each empty SEAT of one YEAR: MOST_EMPTY at most.
        private void place(Republic republic, int slot) {
            if (slot >= slots) {
                tellFound();
                return;
            }
            int office = slotOffice[slot];
            boolean behindOne = slot > 0 && slotOffice[slot - 1] == office;
            int start = behindOne ? chosen[slot - 1] + 1 : 0;
            for (int p = start; p < republic.personCount && !isOver(); p++) {
                if (tries >= MOST_TRIES) {
                    spent = true;
                    return;
                }
                tries++;
                if (fits(republic, p, office)) {
                    takeAndGoOn(republic, slot, p);
                }
            }
        }

        private void takeAndGoOn(Republic republic, int slot, int person) {
            int office = slotOffice[slot];
            int bit = 1 << person;
            chosen[slot] = person;
            seated |= bit;
            putInto[office] |= bit;
            place(republic, slot + 1);
            seated &= ~bit;
            putInto[office] &= ~bit;
        }

        private boolean isOver() {
            return spent || onlyFirst && found > 0;
        }

        private boolean fits(Republic republic, int person, int office) {
            if ((able[office] & ~seated & 1 << person) == 0) {
                return false;
            }
            return !kinBound[office] || (republic.people[person].kin & putInto[office]) == 0;
        }

        private void tellFound() {
            found++;
            if (askedPerson != NO_ONE && askedOffice != ANY_OFFICE
                    && (putInto[askedOffice] >> askedPerson & 1) != 0) {
                hits++;
            }
        }
    }

    /** An ELECTION and the counting of its votes by an ORDER. */
    private static final class Election {
        int candidates = 2;
        int seats = 1;
        int voted = 0;
        final int[] winners = new int[MOST_ELECTED];
        final int[] after = new int[MOST_ELECTED];
        private int electedCount = 0;
        private final int[] ballots = new int[UNITS];
        private final int[] order = new int[UNITS];
        private final int[] votes = new int[MOST_CANDIDATES];
        private final int[] reachedAt = new int[MOST_CANDIDATES];
        private final int[] ranked = new int[MOST_CANDIDATES];

        void open(int newCandidates, int newSeats) {
            candidates = newCandidates;
            seats = newSeats;
            voted = 0;
            Arrays.fill(ballots, 0);
        }

        boolean isBallot(int bits) {
            return bits >= 0 && bits < 1 << candidates && Integer.bitCount(bits) == seats;
        }

        boolean take(int unit, int bits) {
            int before = ballots[unit];
            if (before == 0) {
                voted++;
            }
            ballots[unit] = bits;
            return before != bits;
        }

        void run(long number) {
            begin(number);
            for (int m = 1; m <= UNITS; m++) {
                countUnit(m);
            }
            electRest();
        }

        int sureAfter(long number) {
            begin(number);
            for (int m = 0; m < UNITS; m++) {
                if (m > 0) {
                    countUnit(m);
                }
                if (electedCount >= seats || lead() >= UNITS - m) {
                    return m;
                }
            }
            return UNITS;
        }

        private void begin(long number) {
            draw(order, UNITS, number);
            electedCount = 0;
            Arrays.fill(votes, 0);
            Arrays.fill(reachedAt, 0);
        }

        /** Counts the m-th UNIT of the ORDER, from 1. */
        private void countUnit(int m) {
            int ballot = ballots[order[m - 1]];
            for (int c = 0; c < candidates; c++) {
                if ((ballot >> c & 1) != 0) {
                    votes[c]++;
                    reachedAt[c] = m;
                    if (votes[c] == MAJORITY && electedCount < seats) {
                        elect(c, m);
                    }
                }
            }
        }

        private void elect(int candidate, int units) {
            winners[electedCount] = candidate;
            after[electedCount] = units;
            electedCount++;
        }

        private void electRest() {
            for (int k = electedCount; k < seats; k++) {
                elect(bestOfRest(), UNITS);
            }
        }

        private int bestOfRest() {
            int best = NO_ONE;
            for (int c = 0; c < candidates; c++) {
                if (!isElected(c) && (best == NO_ONE || isAhead(c, best))) {
                    best = c;
                }
            }
            return best;
        }

        private boolean isElected(int candidate) {
            for (int k = 0; k < electedCount; k++) {
                if (winners[k] == candidate) {
                    return true;
                }
            }
            return false;
        }

        /** Of like ones the lesser is ahead: it is asked of a greater one only. */
        private boolean isAhead(int greater, int lesser) {
            if (votes[greater] != votes[lesser]) {
                return votes[greater] > votes[lesser];
            }
            return reachedAt[greater] < reachedAt[lesser];
        }

        /** By how many votes the last one who would get a SEAT is ahead of the next one. */
        private int lead() {
            for (int c = 0; c < candidates; c++) {
                int at = c;
                for (int k = c; k > 0 && ranked[k - 1] < votes[c]; k--) {
                    ranked[k] = ranked[k - 1];
                    at = k - 1;
                }
                ranked[at] = votes[c];
            }
            return ranked[seats - 1] - ranked[seats];
        }
    }

    /** A SHELF; its rows are made once and used again for all that it holds. */
    private static final class Shelf {
        int kind = NOTHING;
        // Null unless a LAW is held.
        Law law = null;
        // How much of the row is held; keepHolders fills the whole of bytes.
        int length = 0;
        private final byte[] bytes = new byte[YEARS];
        private final int[] ints = new int[LONGEST_MADE];

        boolean isRow() {
            return kind == BYTES || kind == INTS;
        }

        boolean hasSpan(int start, int n) {
            return start >= 0 && n >= 0 && n <= length && start <= length - n;
        }

        long at(int i) {
            return kind == BYTES ? bytes[i] : ints[i];
        }

        void clear() {
            become(NOTHING, 0);
        }

        void keepLaw(Law kept) {
            become(A_LAW, 0);
            law = kept;
        }

        void keepHolders(Office office) {
            become(BYTES, YEARS);
            for (int year = 0; year < YEARS; year++) {
                bytes[year] = (byte) office.holder(year, 0);
            }
        }

        void keepLife(Person who) {
            become(INTS, 5);
            ints[0] = who.first;
            ints[1] = who.last;
            ints[2] = who.death;
            ints[3] = who.exileFrom;
            ints[4] = who.exileTo;
        }

        void keepZeros(int newKind, int n) {
            become(newKind, n);
            Arrays.fill(bytes, (byte) 0);
            Arrays.fill(ints, 0);
        }

        void copyTo(Shelf target, int i, int j, int n) {
            if (kind == BYTES) {
                System.arraycopy(bytes, i, target.bytes, j, n);
            } else {
                System.arraycopy(ints, i, target.ints, j, n);
            }
        }

        private void become(int newKind, int newLength) {
            kind = newKind;
            length = newLength;
            law = null;
        }
    }
}
