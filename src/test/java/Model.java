import java.math.BigInteger;
import java.util.ArrayList;
import java.util.BitSet;
import java.util.Comparator;
import java.util.List;
import java.util.TreeSet;

/**
 * The office of the document once more, written plainly and in another way: lists of all that happened, degrees by
 * trying all ways through each source, and equations with whole numbers that may grow as they like.
 */
final class Model {
    private record Permit(int one, int other, int lastDay) { }

    private record Told(int asker, int people) { }

    private final boolean[][] kin = new boolean[7][7];
    private final List<BitSet> lines = new ArrayList<>();
    private final TreeSet<Integer> struck = new TreeSet<>();
    private final List<Permit> permits = new ArrayList<>();
    private final TreeSet<Integer> revoked = new TreeSet<>();
    private final List<Integer> values = new ArrayList<>();
    private final boolean[][] talks = new boolean[4][4];
    private final List<Told> told = new ArrayList<>();
    private final List<Integer> refused = new ArrayList<>();
    private int sources = 0;
    private int askers = 0;
    private int bar = 1;
    private int least = 2;
    private int today = 0;
    private int knocks = 0;

    private static void index(boolean good) {
        if (!good) {
            throw new IndexOutOfBoundsException();
        }
    }

    private static void argument(boolean good) {
        if (!good) {
            throw new IllegalArgumentException();
        }
    }

    private static void state(boolean good) {
        if (!good) {
            throw new IllegalStateException();
        }
    }

    private boolean isSource(int k) {
        return 0 <= k && k < sources;
    }

    private boolean isAsker(int k) {
        return 0 <= k && k < askers;
    }

    private boolean arePeople(int set) {
        return set >= 0 && set < Math.pow(2, values.size());
    }

    /** The fewest steps between each two, 99 without a way: by all ways through each middle. */
    private static int[][] distances(boolean[][] links) {
        int n = links.length;
        int[][] far = new int[n][n];
        for (int a = 0; a < n; a++) {
            for (int b = 0; b < n; b++) {
                far[a][b] = a == b ? 0 : links[a][b] ? 1 : 99;
            }
        }
        for (int middle = 0; middle < n; middle++) {
            for (int a = 0; a < n; a++) {
                for (int b = 0; b < n; b++) {
                    far[a][b] = Math.min(far[a][b], far[a][middle] + far[middle][b]);
                }
            }
        }
        return far;
    }

    private static int orNone(int distance) {
        return distance >= 99 ? -1 : distance;
    }

    private boolean within(int a, int b) {
        int d = degree(a, b);
        return a != b && d != -1 && d <= bar;
    }

    int source() {
        state(sources < 7);
        return sources++;
    }

    int kin(int one, int other, boolean is) {
        index(isSource(one) && isSource(other));
        argument(one != other);
        kin[one][other] = is;
        kin[other][one] = is;
        return strike();
    }

    int bar(int bar) {
        argument(bar >= 0 && bar <= 5);
        this.bar = bar;
        return strike();
    }

    private int strike() {
        int news = 0;
        for (int k = 0; k < lines.size(); k++) {
            if (pairIn(lines.get(k)) != -1 && struck.add(k)) {
                news++;
            }
        }
        return news;
    }

    private int pairIn(BitSet line) {
        for (int pair = 0; pair < 67; pair++) {
            int a = pair / 10;
            int b = pair % 10;
            if (a < b && b < 7 && line.get(a) && line.get(b) && within(a, b)) {
                return pair;
            }
        }
        return -1;
    }

    private boolean isThing(int k) {
        return isSource(k) || k >= 10 && k < 10 + lines.size() && !struck.contains(k - 10);
    }

    private BitSet both(int one, int other) {
        index(isThing(one) && isThing(other));
        BitSet line = new BitSet();
        for (int thing : new int[] {one, other}) {
            if (thing < 10) {
                line.set(thing);
            } else {
                line.or(lines.get(thing - 10));
            }
        }
        return line;
    }

    int join(int one, int other) {
        BitSet line = both(one, other);
        state(pairIn(line) == -1 && lines.size() < 10);
        lines.add(line);
        return 9 + lines.size();
    }

    int wouldJoin(int one, int other) {
        return pairIn(both(one, other));
    }

    int permit(int one, int other, int days) {
        index(isSource(one) && isSource(other));
        argument(one != other && days >= 0 && days < 1000);
        state(permits.size() < 8);
        permits.add(new Permit(one, other, today + days));
        return permits.size() - 1;
    }

    private boolean inForce(int permit) {
        return !revoked.contains(permit) && permits.get(permit).lastDay >= today;
    }

    private int allInForce() {
        int set = 0;
        for (int k = 0; k < permits.size(); k++) {
            set += inForce(k) ? 1 << k : 0;
        }
        return set;
    }

    boolean revoke(int permit) {
        index(permit >= 0 && permit < permits.size());
        boolean was = inForce(permit);
        revoked.add(permit);
        return was;
    }

    int pass(int days) {
        argument(days >= 1 && days <= 400);
        state(today + days <= 3650);
        int before = Integer.bitCount(allInForce());
        today += days;
        return before - Integer.bitCount(allInForce());
    }

    private int[][] chainsBy(int set) {
        boolean[][] links = new boolean[7][7];
        for (int k = 0; k < permits.size(); k++) {
            if ((set & 1 << k) != 0) {
                Permit permit = permits.get(k);
                links[permit.one][permit.other] = true;
                links[permit.other][permit.one] = true;
            }
        }
        return distances(links);
    }

    private int leaksBy(int set) {
        int[][] chains = chainsBy(set);
        int leaks = 0;
        for (int a = 0; a < sources; a++) {
            for (int b = a + 1; b < sources; b++) {
                leaks += within(a, b) && chains[a][b] < 99 ? 1 : 0;
            }
        }
        return leaks;
    }

    private int repair() {
        int all = allInForce();
        List<Integer> sets = new ArrayList<>();
        for (int set = 0; set <= all; set++) {
            if ((set | all) == all) {
                sets.add(set);
            }
        }
        sets.sort(Comparator.<Integer>comparingInt(Integer::bitCount).thenComparingInt(set -> set));
        for (int set : sets) {
            if (leaksBy(all - set) == 0) {
                return set;
            }
        }
        throw new AssertionError("without any permit there is no leak");
    }

    int person(int value) {
        argument(value >= 0 && value <= 999);
        state(values.size() < 8);
        values.add(value);
        return values.size() - 1;
    }

    int asker() {
        state(askers < 4);
        return askers++;
    }

    int least(int least) {
        argument(least >= 1 && least <= 5);
        int before = this.least;
        this.least = least;
        return before;
    }

    private int circle(int asker) {
        int[][] far = distances(talks);
        int set = 0;
        for (int k = 0; k < askers; k++) {
            set += far[asker][k] < 99 ? 1 << k : 0;
        }
        return set;
    }

    private TreeSet<Integer> toldTo(int circle) {
        TreeSet<Integer> sets = new TreeSet<>();
        for (Told one : told) {
            if ((circle & 1 << one.asker) != 0) {
                sets.add(one.people);
            }
        }
        return sets;
    }

    private static int rank(TreeSet<Integer> sets) {
        List<BigInteger[]> rows = new ArrayList<>();
        for (int set : sets) {
            BigInteger[] row = new BigInteger[8];
            for (int k = 0; k < 8; k++) {
                row[k] = BigInteger.valueOf(set >> k & 1);
            }
            rows.add(row);
        }
        int rank = 0;
        for (int column = 0; column < 8; column++) {
            int found = -1;
            for (int k = rank; k < rows.size() && found == -1; k++) {
                found = rows.get(k)[column].signum() != 0 ? k : -1;
            }
            if (found == -1) {
                continue;
            }
            BigInteger[] pivot = rows.set(found, rows.get(rank));
            rows.set(rank, pivot);
            for (int k = rank + 1; k < rows.size(); k++) {
                BigInteger[] row = rows.get(k);
                BigInteger its = row[column];
                for (int c = 0; c < 8; c++) {
                    row[c] = row[c].multiply(pivot[column]).subtract(pivot[c].multiply(its));
                }
            }
            rank++;
        }
        return rank;
    }

    private static boolean derivable(TreeSet<Integer> sets, int people) {
        TreeSet<Integer> more = new TreeSet<>(sets);
        more.add(people);
        return rank(more) == rank(sets);
    }

    private int givenAway(TreeSet<Integer> sets) {
        int away = 0;
        for (int k = 0; k < values.size(); k++) {
            away += derivable(sets, 1 << k) ? 1 << k : 0;
        }
        return away;
    }

    private int sumOf(int people) {
        int sum = 0;
        for (int k = 0; k < values.size(); k++) {
            sum += (people >> k & 1) * values.get(k);
        }
        return sum;
    }

    int wouldGive(int asker, int people) {
        index(isAsker(asker));
        argument(arePeople(people) && people != 0);
        TreeSet<Integer> sets = toldTo(circle(asker));
        sets.add(people);
        return givenAway(sets);
    }

    int ask(int asker, int people) {
        int away = wouldGive(asker, people);
        if (Integer.bitCount(people) < least || away > 0) {
            refused.add(asker);
            return -1;
        }
        told.add(new Told(asker, people));
        return sumOf(people);
    }

    int wouldTalk(int one, int other) {
        index(isAsker(one) && isAsker(other));
        return givenAway(toldTo(circle(one) | circle(other)));
    }

    boolean talk(int one, int other) {
        index(isAsker(one) && isAsker(other));
        argument(one != other);
        if (wouldTalk(one, other) != 0) {
            refused.add(one);
            return false;
        }
        talks[one][other] = true;
        talks[other][one] = true;
        return true;
    }

    int degree(int one, int other) {
        index(isSource(one) && isSource(other));
        return orNone(distances(kin)[one][other]);
    }

    int chain(int one, int other) {
        index(isSource(one) && isSource(other));
        return orNone(chainsBy(allInForce())[one][other]);
    }

    int ofSource(int source, int what) {
        index(isSource(source));
        argument(what >= 0 && what <= 3);
        if (what == 3) {
            int with = 0;
            for (int k = 0; k < lines.size(); k++) {
                with += !struck.contains(k) && lines.get(k).get(source) ? 1 : 0;
            }
            return with;
        }
        int set = 0;
        for (int k = 0; k < sources; k++) {
            boolean in = what == 0 ? kin[source][k]
                    : what == 1 ? within(source, k) : k != source && chain(source, k) != -1;
            set += in ? 1 << k : 0;
        }
        return set;
    }

    int ofTable(int table, int what) {
        index(table >= 10 && table < 10 + lines.size());
        argument(what == 0 || what == 1);
        int line = lines.get(table - 10).isEmpty() ? 0 : (int) lines.get(table - 10).toLongArray()[0];
        return what == 0 ? line : struck.contains(table - 10) ? 1 : 0;
    }

    int ofPermit(int permit, int what) {
        index(permit >= 0 && permit < permits.size());
        argument(what >= 0 && what <= 4);
        Permit it = permits.get(permit);
        int[] all = {Math.min(it.one, it.other), Math.max(it.one, it.other), it.lastDay, inForce(permit) ? 1 : 0,
            what == 4 ? repair() >> permit & 1 : 0};
        return all[what];
    }

    int ofAsker(int asker, int what) {
        index(isAsker(asker));
        argument(what >= 0 && what <= 3);
        switch (what) {
            case 0:
                return circle(asker);
            case 1:
                return rank(toldTo(circle(asker)));
            case 2:
                return (int) told.stream().filter(one -> one.asker == asker).count();
            default:
                return (int) refused.stream().filter(one -> one == asker).count();
        }
    }

    int derived(int asker, int people) {
        index(isAsker(asker));
        argument(arePeople(people));
        return derivable(toldTo(circle(asker)), people) ? sumOf(people) : -1;
    }

    int house(int what) {
        argument(what >= 0 && what <= 13);
        int inForce = allInForce();
        int[] all = {sources, lines.size() - struck.size(), struck.size(), bar, Integer.bitCount(inForce),
            what == 5 ? leaksBy(inForce) : 0, what == 6 ? repair() : 0, today, values.size(), askers, least,
            told.size(), refused.size(), knocks};
        return all[what];
    }

    String row(int source) {
        index(isSource(source));
        StringBuilder text = new StringBuilder();
        for (int k = 0; k < sources; k++) {
            int degree = degree(source, k);
            text.append(degree == -1 ? "-" : String.valueOf(degree));
        }
        return text.toString();
    }

    /** What the office keeps to in all its calls. */
    boolean isSound() {
        return true;
    }

    int knock() {
        return ++knocks;
    }

    long digest() {
        List<Integer> all = new ArrayList<>();
        for (int what = 0; what <= 13; what++) {
            all.add(house(what));
        }
        for (int k = 0; k < sources; k++) {
            for (int what = 0; what <= 3; what++) {
                all.add(ofSource(k, what));
            }
        }
        for (int k = 0; k < lines.size(); k++) {
            all.add(ofTable(10 + k, 0));
            all.add(ofTable(10 + k, 1));
        }
        for (int k = 0; k < permits.size(); k++) {
            for (int what = 0; what <= 4; what++) {
                all.add(ofPermit(k, what));
            }
        }
        for (int k = 0; k < askers; k++) {
            for (int what = 0; what <= 3; what++) {
                all.add(ofAsker(k, what));
            }
            all.add(derived(k, (1 << values.size()) - 1));
        }
        all.add(1);
        long d = 8839;
        for (int v : all) {
            d = d * 31 + v;
        }
        return d;
    }
}
