/**
 * An office that keeps records apart: sources that are kin are not joined, permits make no chain
 * round the bar, and sums are told only while nobody is given away by them.
 *
 * A set is the sum of 2^k for the number k of each of its members.
 */
public final class Degreewall {
    private static final int NONE = -1;
    private static final int MOST_SOURCES = 7;
    private static final int FIRST_TABLE = 10;
    private static final int MOST_TABLES = 10;
    private static final int MOST_PERMITS = 8;
    private static final int MOST_PEOPLE = 8;
    private static final int MOST_ASKERS = 4;
    private static final int GREATEST_BAR = 5;
    private static final int GREATEST_LEAST = 5;
    private static final int GREATEST_VALUE = 999;
    private static final int MOST_DAYS_OF_PERMIT = 999;
    private static final int MOST_DAYS_TO_PASS = 400;
    private static final int LAST_TODAY = 3650;
    private static final int HOUSE_NUMBERS = 14;
    private static final long DIGEST_START = 8839L;
    private static final long DIGEST_FACTOR = 31L;

    private final Kinship kinship = new Kinship();
    private final Tables tables = new Tables();
    private final Permits permits = new Permits();
    private final Sums sums = new Sums();
    private int knocks;

    public Degreewall() {
    }

    public int source() throws IllegalStateException {
        if (kinship.count() >= MOST_SOURCES) {
            throw new IllegalStateException("there are 7 sources");
        }
        return kinship.addSource();
    }

    public int kin(int one, int other, boolean is) throws IndexOutOfBoundsException, IllegalArgumentException {
        needSource(one);
        needSource(other);
        if (one == other) {
            throw new IllegalArgumentException("a source is no kin of itself");
        }
        kinship.tellKin(one, other, is);
        return applyBar();
    }

    public int bar(int bar) throws IllegalArgumentException {
        if (bar < 0 || bar > GREATEST_BAR) {
            throw new IllegalArgumentException("a bar is 0 to 5");
        }
        kinship.tellBar(bar);
        return applyBar();
    }

    public int join(int one, int other) throws IndexOutOfBoundsException, IllegalStateException {
        int line = lineOf(one) | lineOf(other);
        if (kinship.firstPairWithin(line) != NONE) {
            throw new IllegalStateException("two in the line are within the bar");
        }
        if (tables.count() >= MOST_TABLES) {
            throw new IllegalStateException("there are 10 tables");
        }
        return tables.add(line);
    }

    public int permit(int one, int other, int days)
            throws IndexOutOfBoundsException, IllegalArgumentException, IllegalStateException {
        needSource(one);
        needSource(other);
        if (one == other) {
            throw new IllegalArgumentException("a permit is of two unlike sources");
        }
        if (days < 0 || days > MOST_DAYS_OF_PERMIT) {
            throw new IllegalArgumentException("a permit is for 0 to 999 days");
        }
        if (permits.count() >= MOST_PERMITS) {
            throw new IllegalStateException("there are 8 permits");
        }
        int number = permits.add(one, other, days);
        permits.findRepair(kinship);
        return number;
    }

    public boolean revoke(int permit) throws IndexOutOfBoundsException {
        needPermit(permit);
        boolean was = permits.takeBack(permit);
        permits.findRepair(kinship);
        return was;
    }

    public int pass(int days) throws IllegalArgumentException, IllegalStateException {
        if (days < 1 || days > MOST_DAYS_TO_PASS) {
            throw new IllegalArgumentException("1 to 400 days go by");
        }
        if (permits.today() + days > LAST_TODAY) {
            throw new IllegalStateException("today would be above 3650");
        }
        int ended = permits.goOn(days);
        permits.findRepair(kinship);
        return ended;
    }

    public int person(int value) throws IllegalArgumentException, IllegalStateException {
        if (value < 0 || value > GREATEST_VALUE) {
            throw new IllegalArgumentException("a value is 0 to 999");
        }
        if (sums.people() >= MOST_PEOPLE) {
            throw new IllegalStateException("there are 8 people");
        }
        return sums.addPerson(value);
    }

    public int asker() throws IllegalStateException {
        if (sums.askers() >= MOST_ASKERS) {
            throw new IllegalStateException("there are 4 askers");
        }
        return sums.addAsker();
    }

    public int least(int least) throws IllegalArgumentException {
        if (least < 1 || least > GREATEST_LEAST) {
            throw new IllegalArgumentException("least is 1 to 5");
        }
        return sums.tellLeast(least);
    }

    public int ask(int asker, int people) throws IndexOutOfBoundsException, IllegalArgumentException {
        needAsker(asker);
        needSomePeople(people);
        return sums.tell(asker, people);
    }

    public boolean talk(int one, int other) throws IndexOutOfBoundsException, IllegalArgumentException {
        needAsker(one);
        needAsker(other);
        if (one == other) {
            throw new IllegalArgumentException("two unlike askers talk");
        }
        return sums.letTalk(one, other);
    }

    public int degree(int one, int other) throws IndexOutOfBoundsException {
        needSource(one);
        needSource(other);
        return kinship.degreeOf(one, other);
    }

    public int ofSource(int source, int what) throws IndexOutOfBoundsException, IllegalArgumentException {
        needSource(source);
        switch (what) {
            case 0:
                return kinship.kinOf(source);
            case 1:
                return kinship.within(source);
            case 2:
                return permits.chained(source);
            case 3:
                return tables.countWith(source);
            default:
                throw new IllegalArgumentException("what is 0 to 3");
        }
    }

    public int ofTable(int table, int what) throws IndexOutOfBoundsException, IllegalArgumentException {
        if (!tables.knows(table)) {
            throw new IndexOutOfBoundsException("no such table");
        }
        switch (what) {
            case 0:
                return tables.line(table);
            case 1:
                return tables.isStruck(table) ? 1 : 0;
            default:
                throw new IllegalArgumentException("what is 0 or 1");
        }
    }

    public int ofPermit(int permit, int what) throws IndexOutOfBoundsException, IllegalArgumentException {
        needPermit(permit);
        switch (what) {
            case 0:
                return permits.smaller(permit);
            case 1:
                return permits.greater(permit);
            case 2:
                return permits.lastDay(permit);
            case 3:
                return permits.isInForce(permit) ? 1 : 0;
            case 4:
                return contains(permits.repair(), permit) ? 1 : 0;
            default:
                throw new IllegalArgumentException("what is 0 to 4");
        }
    }

    public int ofAsker(int asker, int what) throws IndexOutOfBoundsException, IllegalArgumentException {
        needAsker(asker);
        switch (what) {
            case 0:
                return sums.circle(asker);
            case 1:
                return sums.rankOfCircle(asker);
            case 2:
                return sums.toldTo(asker);
            case 3:
                return sums.refusedTo(asker);
            default:
                throw new IllegalArgumentException("what is 0 to 3");
        }
    }

    public int derived(int asker, int people) throws IndexOutOfBoundsException, IllegalArgumentException {
        needAsker(asker);
        needPeople(people);
        return sums.derivedBy(asker, people);
    }

    public int house(int what) throws IllegalArgumentException {
        switch (what) {
            case 0:
                return kinship.count();
            case 1:
                return tables.count() - tables.countStruck();
            case 2:
                return tables.countStruck();
            case 3:
                return kinship.barNow();
            case 4:
                return permits.countInForce();
            case 5:
                return permits.countLeaks(kinship);
            case 6:
                return permits.repair();
            case 7:
                return permits.today();
            case 8:
                return sums.people();
            case 9:
                return sums.askers();
            case 10:
                return sums.leastNow();
            case 11:
                return sums.toldEver();
            case 12:
                return sums.refusedEver();
            case 13:
                return knocks;
            default:
                throw new IllegalArgumentException("what is 0 to 13");
        }
    }

    public String row(int source) throws IndexOutOfBoundsException {
        needSource(source);
        StringBuilder text = new StringBuilder();
        for (int other = 0; other < kinship.count(); other++) {
            int degree = kinship.degreeOf(other, source);
            if (degree == NONE) {
                text.append('-');
            } else {
                text.append(degree);
            }
        }
        return text.toString();
    }

    public int wouldJoin(int one, int other) throws IndexOutOfBoundsException {
        return kinship.firstPairWithin(lineOf(one) | lineOf(other));
    }

    public int wouldGive(int asker, int people) throws IndexOutOfBoundsException, IllegalArgumentException {
        needAsker(asker);
        needSomePeople(people);
        return sums.givenAwayWith(asker, people);
    }

    public int wouldTalk(int one, int other) throws IndexOutOfBoundsException {
        needAsker(one);
        needAsker(other);
        return sums.givenAwayByTalk(one, other);
    }

    public int chain(int one, int other) throws IndexOutOfBoundsException {
        needSource(one);
        needSource(other);
        return permits.fewestOfChain(one, other);
    }

    public boolean isSound() {
        return sums.areSound() && tables.areSound(kinship) && permits.areSound(kinship);
    }

    public int knock() {
        knocks++;
        return knocks;
    }

    public long digest() {
        long d = DIGEST_START;
        for (int what = 0; what < HOUSE_NUMBERS; what++) {
            d = mixed(d, house(what));
        }
        for (int source = 0; source < kinship.count(); source++) {
            for (int what = 0; what <= 3; what++) {
                d = mixed(d, ofSource(source, what));
            }
        }
        for (int table = FIRST_TABLE; table < FIRST_TABLE + tables.count(); table++) {
            d = mixed(d, ofTable(table, 0));
            d = mixed(d, ofTable(table, 1));
        }
        for (int permit = 0; permit < permits.count(); permit++) {
            for (int what = 0; what <= 4; what++) {
                d = mixed(d, ofPermit(permit, what));
            }
        }
        for (int asker = 0; asker < sums.askers(); asker++) {
            for (int what = 0; what <= 3; what++) {
                d = mixed(d, ofAsker(asker, what));
            }
            d = mixed(d, derived(asker, sums.everybody()));
        }
        return mixed(d, isSound() ? 1 : 0);
    }

    private static long mixed(long d, int v) {
        return d * DIGEST_FACTOR + v;
    }

    private static boolean contains(int set, int number) {
        return (set >> number & 1) == 1;
    }

    /** Tells tables and permits that kin or bar have changed; answers how many tables are struck by it. */
    private int applyBar() {
        permits.findRepair(kinship);
        return tables.strike(kinship);
    }

    private int lineOf(int thing) {
        if (kinship.knows(thing)) {
            return 1 << thing;
        }
        if (!tables.knows(thing) || tables.isStruck(thing)) {
            throw new IndexOutOfBoundsException("no such thing");
        }
        return tables.line(thing);
    }

    private void needSource(int source) {
        if (!kinship.knows(source)) {
            throw new IndexOutOfBoundsException("no such source");
        }
    }

    private void needPermit(int permit) {
        if (!permits.knows(permit)) {
            throw new IndexOutOfBoundsException("no such permit");
        }
    }

    private void needAsker(int asker) {
        if (!sums.knowsAsker(asker)) {
            throw new IndexOutOfBoundsException("no such asker");
        }
    }

    private void needPeople(int people) {
        if (!sums.knowsPeople(people)) {
            throw new IllegalArgumentException("no set of people that there are");
        }
    }

    private void needSomePeople(int people) {
        needPeople(people);
        if (people == 0) {
            throw new IllegalArgumentException("nobody is in the set");
        }
    }

    /** Which numbers are linked, two by two; there is room for the sources, and so for the fewer askers. */
    private static final class Links {
        private final int[] near = new int[MOST_SOURCES];

        void cutAll() {
            for (int number = 0; number < near.length; number++) {
                near[number] = 0;
            }
        }

        void link(int one, int other) {
            near[one] |= 1 << other;
            near[other] |= 1 << one;
        }

        void cut(int one, int other) {
            near[one] &= ~(1 << other);
            near[other] &= ~(1 << one);
        }

        int nextTo(int number) {
            return near[number];
        }

        /** The set of those to which at most so many steps lead, the start itself too. */
        int reach(int start, int steps) {
            int reached = 1 << start;
            for (int step = 0; step < steps; step++) {
                reached = widened(reached);
            }
            return reached;
        }

        int fewestSteps(int one, int other) {
            int reached = 1 << one;
            for (int steps = 0; steps < near.length; steps++) {
                if (contains(reached, other)) {
                    return steps;
                }
                reached = widened(reached);
            }
            return NONE;
        }

        private int widened(int set) {
            int wider = set;
            for (int number = 0; number < near.length; number++) {
                if (contains(set, number)) {
                    wider |= near[number];
                }
            }
            return wider;
        }
    }

    /** The sources, their kin, and the bar. */
    private static final class Kinship {
        private final Links kin = new Links();
        /** For each source the set of those within the bar with it; held, since a repair asks for it often. */
        private final int[] barred = new int[MOST_SOURCES];
        private int count;
        private int bar = 1;

        int count() {
            return count;
        }

        boolean knows(int source) {
            return source >= 0 && source < count;
        }

        int barNow() {
            return bar;
        }

        int addSource() {
            count++;
            return count - 1;
        }

        void tellKin(int one, int other, boolean is) {
            if (is) {
                kin.link(one, other);
            } else {
                kin.cut(one, other);
            }
            findBarred();
        }

        void tellBar(int newBar) {
            bar = newBar;
            findBarred();
        }

        int kinOf(int source) {
            return kin.nextTo(source);
        }

        int degreeOf(int one, int other) {
            return kin.fewestSteps(one, other);
        }

        int within(int source) {
            return barred[source];
        }

        /** The smallest pair in the line that is within the bar, as 10 times the smaller one and the greater one. */
        int firstPairWithin(int line) {
            for (int one = 0; one < count; one++) {
                int close = contains(line, one) ? line & barred[one] : 0;
                for (int other = one + 1; other < count; other++) {
                    if (contains(close, other)) {
                        return one * 10 + other;
                    }
                }
            }
            return NONE;
        }

        private void findBarred() {
            for (int source = 0; source < barred.length; source++) {
                barred[source] = kin.reach(source, bar) & ~(1 << source);
            }
        }
    }

    /** The tables, each with its line; they are numbered from 10. */
    private static final class Tables {
        private final int[] lines = new int[MOST_TABLES];
        private int count;
        private int struck;

        int count() {
            return count;
        }

        boolean knows(int table) {
            return table >= FIRST_TABLE && table < FIRST_TABLE + count;
        }

        int line(int table) {
            return lines[table - FIRST_TABLE];
        }

        boolean isStruck(int table) {
            return contains(struck, table - FIRST_TABLE);
        }

        int countStruck() {
            return Integer.bitCount(struck);
        }

        int add(int line) {
            lines[count] = line;
            count++;
            return FIRST_TABLE + count - 1;
        }

        /** Strikes the tables that the bar forbids by now; answers how many. */
        int strike(Kinship kinship) {
            int before = countStruck();
            for (int place = 0; place < count; place++) {
                if (kinship.firstPairWithin(lines[place]) != NONE) {
                    struck |= 1 << place;
                }
            }
            return countStruck() - before;
        }

        int countWith(int source) {
            int with = 0;
            for (int place = 0; place < count; place++) {
                if (!contains(struck, place) && contains(lines[place], source)) {
                    with++;
                }
            }
            return with;
        }

        boolean areSound(Kinship kinship) {
            for (int place = 0; place < count; place++) {
                if (!contains(struck, place) && kinship.firstPairWithin(lines[place]) != NONE) {
                    return false;
                }
            }
            return true;
        }
    }

    /** The permits, the day, and which permits are to be taken back so that nothing leaks. */
    private static final class Permits {
        private final int[] smaller = new int[MOST_PERMITS];
        private final int[] greater = new int[MOST_PERMITS];
        private final int[] lastDay = new int[MOST_PERMITS];
        /** Laid out anew from a set of permits before each use. */
        private final Links chains = new Links();
        private int count;
        private int revoked;
        private int today;
        private int repair;

        int count() {
            return count;
        }

        int today() {
            return today;
        }

        int repair() {
            return repair;
        }

        boolean knows(int permit) {
            return permit >= 0 && permit < count;
        }

        int smaller(int permit) {
            return smaller[permit];
        }

        int greater(int permit) {
            return greater[permit];
        }

        int lastDay(int permit) {
            return lastDay[permit];
        }

        boolean isInForce(int permit) {
            return today <= lastDay[permit] && !contains(revoked, permit);
        }

        int countInForce() {
            return Integer.bitCount(inForce());
        }

        int add(int one, int other, int days) {
            smaller[count] = Math.min(one, other);
            greater[count] = Math.max(one, other);
            lastDay[count] = today + days;
            count++;
            return count - 1;
        }

        /** Revokes a permit; answers whether it was in force. */
        boolean takeBack(int permit) {
            boolean was = isInForce(permit);
            revoked |= 1 << permit;
            return was;
        }

        /** Lets days go by; answers how many permits ended. */
        int goOn(int days) {
            int before = countInForce();
            today += days;
            return before - countInForce();
        }

        int chained(int source) {
            layOut(inForce());
            return chains.reach(source, MOST_SOURCES) & ~(1 << source);
        }

        int fewestOfChain(int one, int other) {
            layOut(inForce());
            return chains.fewestSteps(one, other);
        }

        int countLeaks(Kinship kinship) {
            return leaksBy(inForce(), kinship);
        }

        /** To be called whenever kin, bar or permits have changed. */
        void findRepair(Kinship kinship) {
            int all = inForce();
            int best = all;
            // By rising numbers, and only a set with fewer permits takes the place: so of several it is the first one.
            for (int set = 0; set < all; set++) {
                boolean better = (set & ~all) == 0 && Integer.bitCount(set) < Integer.bitCount(best);
                if (better && leaksBy(all & ~set, kinship) == 0) {
                    best = set;
                }
            }
            repair = best;
        }

        boolean areSound(Kinship kinship) {
            return leaksBy(inForce() & ~repair, kinship) == 0;
        }

        private int inForce() {
            int set = 0;
            for (int permit = 0; permit < count; permit++) {
                if (isInForce(permit)) {
                    set |= 1 << permit;
                }
            }
            return set;
        }

        private void layOut(int set) {
            chains.cutAll();
            for (int permit = 0; permit < count; permit++) {
                if (contains(set, permit)) {
                    chains.link(smaller[permit], greater[permit]);
                }
            }
        }

        private int leaksBy(int set, Kinship kinship) {
            layOut(set);
            int leaks = 0;
            for (int one = 0; one < kinship.count(); one++) {
                int barred = kinship.within(one);
                if (barred != 0) {
                    // A pair is counted at its smaller source alone.
                    leaks += Integer.bitCount((chains.reach(one, MOST_SOURCES) & barred) >> (one + 1));
                }
            }
            return leaks;
        }
    }

    /** What follows from some sums: each person is a column, each sum a row of 0 and 1. */
    private static final class Span {
        /**
         * Rows are reckoned modulo this prime, which needs no fractions and lets no number grow. It changes no
         * answer: a square of 0 and 1 with at most 8 rows has a determinant of at most 56, so that one which is
         * not 0 is not 0 modulo the prime either, and rows are independent there just when they are so at all.
         */
        private static final int PRIME = 1009;
        /** The row at k has something at k, where each other row in use has 0. */
        private final int[][] rows = new int[MOST_PEOPLE][MOST_PEOPLE];
        private final int[] rest = new int[MOST_PEOPLE];
        private int used;

        void forgetAll() {
            used = 0;
        }

        void add(int people) {
            int place = firstOfRest(people);
            if (place == NONE) {
                return;
            }
            for (int column = 0; column < MOST_PEOPLE; column++) {
                rows[place][column] = rest[column];
            }
            for (int other = 0; other < MOST_PEOPLE; other++) {
                if (contains(used, other)) {
                    clearAt(rows[other], place);
                }
            }
            used |= 1 << place;
        }

        boolean holds(int people) {
            return firstOfRest(people) == NONE;
        }

        int rank() {
            return Integer.bitCount(used);
        }

        /** The set of people each of whom stands alone in a row. */
        int alone() {
            int set = 0;
            for (int place = 0; place < MOST_PEOPLE; place++) {
                if (contains(used, place) && isAlone(rows[place])) {
                    set |= 1 << place;
                }
            }
            return set;
        }

        private static boolean isAlone(int[] row) {
            int some = 0;
            for (int column = 0; column < row.length; column++) {
                if (row[column] != 0) {
                    some++;
                }
            }
            return some == 1;
        }

        /** Leaves in the rest what the rows do not give of the set; answers the first place where that is not 0. */
        private int firstOfRest(int people) {
            for (int column = 0; column < MOST_PEOPLE; column++) {
                rest[column] = contains(people, column) ? 1 : 0;
            }
            for (int place = 0; place < MOST_PEOPLE; place++) {
                if (contains(used, place)) {
                    clearAt(rest, place);
                }
            }
            for (int column = 0; column < MOST_PEOPLE; column++) {
                if (rest[column] != 0) {
                    return column;
                }
            }
            return NONE;
        }

        /** Makes the other row 0 at the place, by taking from it what it has of the row there. */
        private void clearAt(int[] other, int place) {
            int[] row = rows[place];
            int mine = row[place];
            int its = other[place];
            if (its == 0) {
                return;
            }
            for (int column = 0; column < MOST_PEOPLE; column++) {
                other[column] = (other[column] * mine - row[column] * its) % PRIME;
            }
        }
    }

    /** The people, the askers, and what was told to them. */
    private static final class Sums {
        private final int[] values = new int[MOST_PEOPLE];
        private final Links talks = new Links();
        /** For each set of people the set of the askers to whom its sum was told. */
        private final int[] hearers = new int[1 << MOST_PEOPLE];
        private final int[] told = new int[MOST_ASKERS];
        private final int[] refused = new int[MOST_ASKERS];
        /** Filled anew before each use. */
        private final Span span = new Span();
        private int people;
        private int askers;
        private int least = 2;

        int people() {
            return people;
        }

        int everybody() {
            return (1 << people) - 1;
        }

        int askers() {
            return askers;
        }

        int leastNow() {
            return least;
        }

        boolean knowsAsker(int asker) {
            return asker >= 0 && asker < askers;
        }

        boolean knowsPeople(int set) {
            return set >= 0 && set <= everybody();
        }

        int addPerson(int value) {
            values[people] = value;
            people++;
            return people - 1;
        }

        int addAsker() {
            askers++;
            return askers - 1;
        }

        int tellLeast(int newLeast) {
            int before = least;
            least = newLeast;
            return before;
        }

        int tell(int asker, int set) {
            if (Integer.bitCount(set) < least || givenAwayWith(asker, set) != 0) {
                refused[asker]++;
                return NONE;
            }
            hearers[set] |= 1 << asker;
            told[asker]++;
            return sumOf(set);
        }

        boolean letTalk(int one, int other) {
            if (givenAwayByTalk(one, other) != 0) {
                refused[one]++;
                return false;
            }
            talks.link(one, other);
            return true;
        }

        int circle(int asker) {
            return talks.reach(asker, MOST_ASKERS);
        }

        int rankOfCircle(int asker) {
            fillSpan(circle(asker));
            return span.rank();
        }

        int toldTo(int asker) {
            return told[asker];
        }

        int refusedTo(int asker) {
            return refused[asker];
        }

        int toldEver() {
            return total(told);
        }

        int refusedEver() {
            return total(refused);
        }

        int derivedBy(int asker, int set) {
            fillSpan(circle(asker));
            return span.holds(set) ? sumOf(set) : NONE;
        }

        int givenAwayWith(int asker, int set) {
            fillSpan(circle(asker));
            span.add(set);
            return span.alone();
        }

        int givenAwayByTalk(int one, int other) {
            fillSpan(circle(one) | circle(other));
            return span.alone();
        }

        boolean areSound() {
            for (int asker = 0; asker < askers; asker++) {
                fillSpan(circle(asker));
                if (span.alone() != 0 || !spanHoldsAllTold(asker)) {
                    return false;
                }
            }
            return true;
        }

        private boolean spanHoldsAllTold(int asker) {
            for (int set = 0; set < hearers.length; set++) {
                if (contains(hearers[set], asker) && !span.holds(set)) {
                    return false;
                }
            }
            return true;
        }

        private void fillSpan(int circle) {
            span.forgetAll();
            for (int set = 0; set < hearers.length; set++) {
                if ((hearers[set] & circle) != 0) {
                    span.add(set);
                }
            }
        }

        private int sumOf(int set) {
            int sum = 0;
            for (int person = 0; person < people; person++) {
                if (contains(set, person)) {
                    sum += values[person];
                }
            }
            return sum;
        }

        private static int total(int[] numbers) {
            int sum = 0;
            for (int place = 0; place < numbers.length; place++) {
                sum += numbers[place];
            }
            return sum;
        }
    }
}
