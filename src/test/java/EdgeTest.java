import java.math.BigInteger;
import java.util.ArrayList;
import java.util.List;
import java.util.concurrent.Callable;

/**
 * Each sentence of the document that names a boundary, promise by promise: what is just allowed and what is just not,
 * on both sides, the empty and the full, each limit of a count, and which of several exceptions is thrown.
 */
public final class EdgeTest {
    private static final String INDEX = Checks.INDEX;
    private static final String ARGUMENT = Checks.ARGUMENT;
    private static final String STATE = Checks.STATE;
    private static final int LOWEST = Checks.LOWEST;
    private static final int HIGHEST = Checks.HIGHEST;
    private static final int SOURCES = 7;
    private static final int PERMITS = 8;
    private static final int PEOPLE = 8;
    private static final int ASKERS = 4;
    private static final int EVERYBODY = 255;
    private static final Checks checks = new Checks();

    public static void main(String[] args) {
        promise1();
        promise1NothingHasANumber();
        promise2();
        promise3();
        promise3Struck();
        promise4();
        promise4Within();
        promise4Struck();
        promise5();
        promise5Things();
        promise5Within();
        promise6();
        promise6Limit();
        promise6Order();
        promise7();
        promise8();
        promise8Ended();
        promise8Today();
        promise9();
        promise10();
        promise11();
        promise12();
        promise12Least();
        promise12GivenAway();
        promise12BrokenNumbers();
        promise12StaysTold();
        promise13();
        promise13Circles();
        promise14();
        promise15();
        promise16();
        promise17();
        promise17Force();
        promise17Repair();
        promise18();
        promise18Rank();
        promise19();
        promise20();
        promise20Greatest();
        promise21();
        promise22();
        promise23();
        promise24();
        promise25();
        promise26();
        promise27();
        promise28();
        checks.end();
    }

    private static void promise1() {
        Degreewall x = new Degreewall();
        int[] first = {0, 0, 0, 1, 0, 0, 0, 0, 0, 0, 2, 0, 0, 0};
        for (int k = 0; k < first.length; k++) {
            int what = k;
            checks.due("1: a new office, house(" + what + ")", () -> x.house(what), first[what]);
        }
        checks.due("1: the first source", x::source, 0);
        checks.due("1: the second source", x::source, 1);
        checks.due("1: the first table", () -> x.join(0, 0), 10);
        checks.due("1: the first permit", () -> x.permit(0, 1, 0), 0);
        checks.due("1: the first person", () -> x.person(0), 0);
        checks.due("1: the first asker", x::asker, 0);
        checks.due("1: the first knock", x::knock, 1);
        checks.due("1: another office is new", () -> Offices.houseOf(new Degreewall()), "0 0 0 1 0 0 0 0 0 0 2 0 0 0");
    }

    private static void promise1NothingHasANumber() {
        Degreewall x = new Degreewall();
        for (int k : new int[] {LOWEST, -1, 0, 1, 6, 9, 10, 11, HIGHEST}) {
            checks.due("1: kin(" + k + ")", () -> x.kin(k, k, true), INDEX);
            checks.due("1: join(" + k + ")", () -> x.join(k, k), INDEX);
            checks.due("1: permit(" + k + ")", () -> x.permit(k, k, -1), INDEX);
            checks.due("1: revoke(" + k + ")", () -> x.revoke(k), INDEX);
            checks.due("1: ask(" + k + ")", () -> x.ask(k, 0), INDEX);
            checks.due("1: talk(" + k + ")", () -> x.talk(k, k), INDEX);
            checks.due("1: degree(" + k + ")", () -> x.degree(k, k), INDEX);
            checks.due("1: ofSource(" + k + ")", () -> x.ofSource(k, -1), INDEX);
            checks.due("1: ofTable(" + k + ")", () -> x.ofTable(k, -1), INDEX);
            checks.due("1: ofPermit(" + k + ")", () -> x.ofPermit(k, -1), INDEX);
            checks.due("1: ofAsker(" + k + ")", () -> x.ofAsker(k, -1), INDEX);
            checks.due("1: derived(" + k + ")", () -> x.derived(k, -1), INDEX);
            checks.due("1: row(" + k + ")", () -> x.row(k), INDEX);
            checks.due("1: wouldJoin(" + k + ")", () -> x.wouldJoin(k, k), INDEX);
            checks.due("1: wouldGive(" + k + ")", () -> x.wouldGive(k, 0), INDEX);
            checks.due("1: wouldTalk(" + k + ")", () -> x.wouldTalk(k, k), INDEX);
            checks.due("1: chain(" + k + ")", () -> x.chain(k, k), INDEX);
        }
    }

    private static void promise2() {
        Degreewall x = new Degreewall();
        for (int k = 0; k < SOURCES; k++) {
            int number = k;
            checks.due("2: " + number + " is not there yet", () -> x.degree(number, number), INDEX);
            checks.due("2: source " + number, x::source, number);
            checks.due("2: " + number + " is there", () -> x.degree(number, number), 0);
            checks.due("2: how many there are", () -> x.house(0), number + 1);
        }
        checks.due("2: there are 7", x::source, STATE);
        checks.due("2: there are still 7", x::source, STATE);
        checks.due("2: 7 is no source", () -> x.degree(7, 7), INDEX);
        checks.due("2: how many there are", () -> x.house(0), 7);
    }

    private static void promise3() {
        Degreewall x = Offices.withSources(SOURCES);
        checks.due("3: the smallest and the greatest source", () -> x.kin(0, 6, true), 0);
        checks.due("3: kin of 0", () -> x.ofSource(0, 0), 64);
        checks.due("3: kin of 6", () -> x.ofSource(6, 0), 1);
        checks.due("3: already kin", () -> x.kin(6, 0, true), 0);
        checks.due("3: no longer", () -> x.kin(6, 0, false), 0);
        checks.due("3: kin of 0", () -> x.ofSource(0, 0), 0);
        checks.due("3: kin of 6", () -> x.ofSource(6, 0), 0);
        checks.due("3: were no kin already", () -> x.kin(0, 6, false), 0);
        for (int wrong : Checks.outside(0, 6)) {
            checks.due("3: one is " + wrong, () -> x.kin(wrong, 6, true), INDEX);
            checks.due("3: other is " + wrong, () -> x.kin(0, wrong, false), INDEX);
            checks.due("3: both are " + wrong + ": no source before the same", () -> x.kin(wrong, wrong, true), INDEX);
        }
        for (int k = 0; k < SOURCES; k++) {
            int both = k;
            checks.due("3: both are " + both, () -> x.kin(both, both, true), ARGUMENT);
            checks.due("3: both are " + both + ", no kin", () -> x.kin(both, both, false), ARGUMENT);
        }
        Degreewall y = Offices.withSources(3);
        checks.due("3: 2 of three sources", () -> y.kin(2, 0, true), 0);
        checks.due("3: 3 of three sources", () -> y.kin(3, 0, true), INDEX);
        checks.due("3: 3 of three sources", () -> y.kin(0, 3, true), INDEX);
    }

    private static void promise3Struck() {
        Degreewall x = Offices.withTables(10);
        checks.due("3: kin that is in no line strikes none", () -> x.kin(4, 6, true), 0);
        checks.due("3: kin that are apart strikes none", () -> x.kin(4, 6, false), 0);
        checks.due("3: all 10 at once", () -> x.kin(0, 2, true), 10);
        checks.due("3: none is struck again", () -> x.kin(2, 0, true), 0);
        checks.due("3: none by kin that ends", () -> x.kin(0, 2, false), 0);
        checks.due("3: for good", () -> x.house(2), 10);
        checks.due("3: none is there", () -> x.house(1), 0);

        Degreewall y = Offices.withSources(5);
        y.bar(2);
        y.join(0, 3);
        y.join(0, 2);
        y.join(4, 4);
        checks.due("3: two steps are one too few so far", () -> y.kin(0, 1, true), 0);
        checks.due("3: 0 and 3 are four steps apart", () -> y.kin(4, 3, true), 0);
        checks.due("3: 0 and 3 are three steps apart, one above the bar", () -> y.kin(1, 4, true), 0);
        checks.due("3: 0 and 2 are two steps apart, just the bar", () -> y.kin(1, 2, true), 1);
        checks.due("3: a way of two steps to 3, too", () -> y.kin(1, 3, true), 1);
        checks.due("3: a table of one source is never struck", () -> y.ofTable(12, 1), 0);
    }

    private static void promise4() {
        Degreewall x = new Degreewall();
        for (int k = 0; k <= 5; k++) {
            int bar = k;
            checks.due("4: bar(" + bar + ")", () -> x.bar(bar), 0);
            checks.due("4: the bar is " + bar, () -> x.house(3), bar);
            for (int wrong : Checks.outside(0, 5)) {
                checks.due("4: bar(" + wrong + ")", () -> x.bar(wrong), ARGUMENT);
            }
            checks.due("4: the bar is still " + bar, () -> x.house(3), bar);
        }
    }

    private static void promise4Within() {
        Degreewall x = Offices.withLine(SOURCES);
        Degreewall apart = Offices.withSources(SOURCES);
        for (int k = 0; k <= 5; k++) {
            int bar = k;
            int near = (1 << bar) - 1;
            x.bar(bar);
            apart.bar(bar);
            checks.due("4: as far as the bar " + bar + ", not itself", () -> x.ofSource(0, 1), near << 1);
            checks.due("4: as far as the bar " + bar + ", from the end", () -> x.ofSource(6, 1), near << 6 - bar);
            checks.due("4: no degree is not within " + bar, () -> apart.ofSource(0, 1), 0);
            checks.due("4: no degree is not within " + bar, () -> apart.wouldJoin(0, 6), -1);
        }
        checks.due("4: one step less", () -> x.wouldJoin(1, 6), 16);
        checks.due("4: degree 6 is within no bar", () -> x.wouldJoin(0, 6), -1);
    }

    private static void promise4Struck() {
        Degreewall x = Offices.withLine(SOURCES);
        checks.due("4: no table, none struck", () -> x.bar(0), 0);
        for (int k = 1; k <= 6; k++) {
            int far = k;
            checks.due("4: a table of degree " + far, () -> x.join(0, far), 9 + far);
        }
        checks.due("4: the same bar strikes none", () -> x.bar(0), 0);
        for (int k = 1; k <= 5; k++) {
            int bar = k;
            checks.due("4: just the one of degree " + bar, () -> x.bar(bar), 1);
            checks.due("4: which is that", () -> x.ofTable(9 + bar, 1), 1);
            checks.due("4: not the next one", () -> x.ofTable(10 + bar, 1), 0);
            checks.due("4: once alone", () -> x.bar(bar), 0);
        }
        checks.due("4: a lower bar strikes none", () -> x.bar(0), 0);
        checks.due("4: struck for good", () -> x.house(2), 5);
        checks.due("4: one is there", () -> x.house(1), 1);
        checks.due("4: a higher bar again", () -> x.bar(5), 0);
        Degreewall y = Offices.withTables(10);
        checks.due("4: all 10 at once", () -> y.bar(2), 10);
        checks.due("4: none is left", () -> y.house(1), 0);
    }

    private static void promise5() {
        Degreewall x = Offices.withTables(0);
        for (int k = 10; k < 20; k++) {
            int table = k;
            checks.due("5: " + table + " is no thing yet", () -> x.join(table, 0), INDEX);
            checks.due("5: table " + table, () -> x.join(0, 2), table);
            checks.due("5: " + table + " is a thing", () -> x.wouldJoin(table, 0), -1);
        }
        checks.due("5: there are 10", () -> x.join(0, 2), STATE);
        checks.due("5: there are 10, for a table with itself", () -> x.join(19, 19), STATE);
        checks.due("5: no such thing before 10", () -> x.join(20, 0), INDEX);
        checks.due("5: no such thing before 10", () -> x.join(0, 7), INDEX);
        checks.due("5: 10 tables", () -> x.house(1), 10);
        x.kin(0, 2, true);
        checks.due("5: there are 10, all struck", () -> x.join(4, 4), STATE);
        checks.due("5: a struck one before 10", () -> x.join(4, 19), INDEX);
        checks.due("5: a struck one before 10", () -> x.join(10, 4), INDEX);

        Degreewall y = Offices.withTables(9);
        y.kin(0, 2, true);
        checks.due("5: the tenth, behind 9 struck ones", () -> y.join(4, 4), 19);
        checks.due("5: no eleventh, with one that is there", () -> y.join(19, 4), STATE);
        checks.due("5: 9 struck ones", () -> y.house(2), 9);
        checks.due("5: one that is there", () -> y.house(1), 1);
    }

    private static void promise5Things() {
        Degreewall x = Offices.withSources(SOURCES);
        checks.due("5: the smallest and the greatest source", () -> x.join(0, 6), 10);
        checks.due("5: its line", () -> x.ofTable(10, 0), 65);
        checks.due("5: a source with itself", () -> x.join(6, 6), 11);
        checks.due("5: the line of a source is itself", () -> x.ofTable(11, 0), 64);
        checks.due("5: two tables", () -> x.join(10, 11), 12);
        checks.due("5: all of both lines", () -> x.ofTable(12, 0), 65);
        for (int wrong : new int[] {LOWEST, LOWEST + 10, -22, -1, 7, 8, 9, 13, 19, 20, 32, 42, 256, 266, HIGHEST}) {
            checks.due("5: one is " + wrong, () -> x.join(wrong, 0), INDEX);
            checks.due("5: other is " + wrong, () -> x.join(12, wrong), INDEX);
            checks.due("5: both are " + wrong, () -> x.join(wrong, wrong), INDEX);
        }
        checks.due("5: no table by all that", () -> x.house(1), 3);
        Degreewall y = Offices.withSources(SOURCES);
        y.join(0, 1);
        for (int k = 2; k < SOURCES; k++) {
            y.join(8 + k, k);
        }
        checks.due("5: the full line", () -> y.ofTable(15, 0), 127);
        checks.due("5: the full line and one of it", () -> y.join(15, 3), 16);
        checks.due("5: the full line stays", () -> y.ofTable(16, 0), 127);
        Degreewall z = Offices.withSources(3);
        checks.due("5: 2 of three sources", () -> z.join(2, 2), 10);
        checks.due("5: 3 of three sources", () -> z.join(3, 3), INDEX);
    }

    private static void promise5Within() {
        for (int k = 1; k <= 5; k++) {
            int bar = k;
            Degreewall x = Offices.withLine(SOURCES);
            x.bar(bar);
            checks.due("5: just the bar " + bar, () -> x.join(0, bar), STATE);
            checks.due("5: one step more than " + bar, () -> x.join(0, bar + 1), 10);
            checks.due("5: a table and one within", () -> x.join(10, 1), STATE);
            checks.due("5: one within and a table", () -> x.join(1, 10), STATE);
        }
        Degreewall x = Offices.withLine(SOURCES);
        x.bar(0);
        checks.due("5: kin, but the bar is 0", () -> x.join(3, 4), 10);
        x.bar(1);
        checks.due("5: struck before within", () -> x.join(10, 3), INDEX);
        checks.due("5: struck twice", () -> x.join(10, 10), INDEX);
        Degreewall y = Offices.withTables(10);
        checks.due("5: within, and 10 tables", () -> y.join(0, 1), STATE);
        Degreewall z = Offices.withLine(SOURCES);
        z.join(0, 2);
        z.join(5, 5);
        z.join(4, 6);
        checks.due("5: a pair is in two tables alone", () -> z.join(11, 12), STATE);
        checks.due("5: refused, no table", () -> z.house(1), 3);
        checks.due("5: the next number is not used up", () -> z.join(10, 11), 13);
    }

    private static void promise6() {
        Degreewall x = Offices.withSources(SOURCES);
        checks.due("6: the smallest and the greatest source, 0 days", () -> x.permit(0, 6, 0), 0);
        checks.due("6: the last day is today", () -> x.ofPermit(0, 2), 0);
        checks.due("6: 999 days", () -> x.permit(6, 0, 999), 1);
        checks.due("6: the last day", () -> x.ofPermit(1, 2), 999);
        for (int wrong : Checks.outside(0, 999)) {
            checks.due("6: " + wrong + " days", () -> x.permit(0, 1, wrong), ARGUMENT);
        }
        for (int wrong : Checks.outside(0, 6)) {
            checks.due("6: one is " + wrong, () -> x.permit(wrong, 6, 1), INDEX);
            checks.due("6: other is " + wrong, () -> x.permit(0, wrong, 1), INDEX);
        }
        for (int k = 0; k < SOURCES; k++) {
            int both = k;
            checks.due("6: both are " + both, () -> x.permit(both, both, 1), ARGUMENT);
        }
        checks.due("6: the next number is not used up", () -> x.permit(0, 1, 1), 2);
        Degreewall y = Offices.withSources(3);
        checks.due("6: 2 of three sources", () -> y.permit(2, 0, 1), 0);
        checks.due("6: 3 of three sources", () -> y.permit(3, 0, 1), INDEX);
        Degreewall z = Offices.withToday(3650);
        checks.due("6: on the last of all days", () -> z.permit(0, 1, 0), 0);
        checks.due("6: it is in force", () -> z.ofPermit(0, 3), 1);
        checks.due("6: 999 days from there", () -> z.permit(0, 1, 999), 1);
        checks.due("6: the last day may be above 3650", () -> z.ofPermit(1, 2), 4649);
    }

    private static void promise6Limit() {
        Degreewall x = Offices.withPermits(0, 0);
        for (int k = 0; k < PERMITS; k++) {
            int permit = k;
            checks.due("6: " + permit + " is no permit yet", () -> x.ofPermit(permit, 0), INDEX);
            checks.due("6: permit " + permit, () -> x.permit(0, 1, 5), permit);
        }
        checks.due("6: there are 8 in force", () -> x.permit(0, 1, 5), STATE);
        for (int k = 0; k < PERMITS; k++) {
            x.revoke(k);
        }
        checks.due("6: none is in force", () -> x.house(4), 0);
        checks.due("6: there are 8 revoked ones", () -> x.permit(0, 1, 5), STATE);
        Degreewall y = Offices.withPermits(PERMITS, 0);
        y.pass(1);
        checks.due("6: none is in force", () -> y.house(4), 0);
        checks.due("6: there are 8 that ended", () -> y.permit(0, 1, 5), STATE);
        Degreewall z = Offices.withPermits(PERMITS - 1, 0);
        z.pass(1);
        checks.due("6: the eighth, behind 7 that ended", () -> z.permit(0, 1, 5), 7);
        checks.due("6: no ninth", () -> z.permit(0, 1, 5), STATE);
        Degreewall v = Offices.withPermits(PERMITS - 1, 5);
        v.revoke(0);
        checks.due("6: the eighth, with one revoked", () -> v.permit(0, 1, 5), 7);
        checks.due("6: no ninth", () -> v.permit(0, 1, 5), STATE);
    }

    private static void promise6Order() {
        for (int count : new int[] {0, PERMITS}) {
            Degreewall x = Offices.withPermits(count, 5);
            String there = "6: with " + count + " permits: ";
            checks.due(there + "no source before the same", () -> x.permit(7, 7, 5), INDEX);
            checks.due(there + "no source before the days", () -> x.permit(0, 7, 1000), INDEX);
            checks.due(there + "no source before the days", () -> x.permit(-1, 0, -1), INDEX);
            checks.due(there + "no source before 8", () -> x.permit(7, 0, 5), INDEX);
            checks.due(there + "the same before 8", () -> x.permit(1, 1, 5), ARGUMENT);
            checks.due(there + "-1 days before 8", () -> x.permit(0, 1, -1), ARGUMENT);
            checks.due(there + "1000 days before 8", () -> x.permit(0, 1, 1000), ARGUMENT);
        }
    }

    private static void promise7() {
        Degreewall x = Offices.withPermits(PERMITS, 5);
        for (int wrong : Checks.outside(0, 7)) {
            checks.due("7: revoke(" + wrong + ")", () -> x.revoke(wrong), INDEX);
        }
        checks.due("7: the first", () -> x.revoke(0), true);
        checks.due("7: the last", () -> x.revoke(7), true);
        checks.due("7: the first again", () -> x.revoke(0), false);
        checks.due("7: six are left", () -> x.house(4), 6);
        x.pass(4);
        checks.due("7: the day before its last one", () -> x.revoke(1), true);
        x.pass(1);
        checks.due("7: on its last day", () -> x.revoke(2), true);
        checks.due("7: for good", () -> x.ofPermit(0, 3), 0);
        x.pass(1);
        checks.due("7: behind its last day", () -> x.revoke(3), false);
        checks.due("7: revoked and ended", () -> x.revoke(0), false);
        Degreewall y = Offices.withPermits(3, 5);
        checks.due("7: 3 of three permits", () -> y.revoke(3), INDEX);
        checks.due("7: 2 of three permits", () -> y.revoke(2), true);
        Degreewall z = Offices.withPermits(1, 0);
        checks.due("7: a permit of one day, on it", () -> z.revoke(0), true);
        checks.due("7: none", () -> Offices.withPermits(0, 0).revoke(0), INDEX);
    }

    private static void promise8() {
        Degreewall x = new Degreewall();
        for (int wrong : Checks.outside(1, 400)) {
            checks.due("8: pass(" + wrong + ")", () -> x.pass(wrong), ARGUMENT);
        }
        checks.due("8: today is still 0", () -> x.house(7), 0);
        checks.due("8: pass(1)", () -> x.pass(1), 0);
        checks.due("8: today is 1", () -> x.house(7), 1);
        checks.due("8: pass(400)", () -> x.pass(400), 0);
        checks.due("8: today is 401", () -> x.house(7), 401);
    }

    private static void promise8Ended() {
        Degreewall x = Offices.withPermits(PERMITS, 3);
        checks.due("8: the day before the last one", () -> x.pass(2), 0);
        checks.due("8: the last day, that day too", () -> x.pass(1), 0);
        checks.due("8: all 8 are in force", () -> x.house(4), 8);
        checks.due("8: the day behind it", () -> x.pass(1), 8);
        checks.due("8: none is in force", () -> x.house(4), 0);
        checks.due("8: none ends again", () -> x.pass(400), 0);
        Degreewall y = Offices.withPermits(4, 3);
        y.permit(0, 1, 4);
        y.revoke(1);
        checks.due("8: revoked ones do not end, later ones not yet", () -> y.pass(4), 3);
        checks.due("8: the later one", () -> y.pass(1), 1);
        Degreewall z = Offices.withPermits(1, 0);
        checks.due("8: a permit of one day", () -> z.pass(1), 1);
        Degreewall v = Offices.withPermits(2, 399);
        v.permit(0, 1, 400);
        checks.due("8: behind 399, not behind 400", () -> v.pass(400), 2);
    }

    private static void promise8Today() {
        Degreewall x = Offices.withToday(3249);
        checks.due("8: 400 days to 3649", () -> x.pass(400), 0);
        checks.due("8: two more are one too many", () -> x.pass(2), STATE);
        checks.due("8: today is 3649", () -> x.house(7), 3649);
        checks.due("8: one more to 3650", () -> x.pass(1), 0);
        checks.due("8: today is 3650", () -> x.house(7), 3650);
        checks.due("8: no day more", () -> x.pass(1), STATE);
        checks.due("8: no 400 days more", () -> x.pass(400), STATE);
        for (int wrong : Checks.outside(1, 400)) {
            checks.due("8: wrong days before 3650: " + wrong, () -> x.pass(wrong), ARGUMENT);
        }
        checks.due("8: today is still 3650", () -> x.house(7), 3650);
        Degreewall y = Offices.withToday(3250);
        checks.due("8: 400 days to just 3650", () -> y.pass(400), 0);
        Degreewall z = Offices.withToday(3251);
        checks.due("8: 400 days to 3651", () -> z.pass(400), STATE);
        checks.due("8: today is 3251", () -> z.house(7), 3251);
        Degreewall v = Offices.withToday(3650);
        v.permit(0, 1, 0);
        checks.due("8: no day more, so that nothing ends", () -> v.pass(1), STATE);
        checks.due("8: it is in force", () -> v.ofPermit(0, 3), 1);
    }

    private static void promise9() {
        Degreewall x = new Degreewall();
        for (int wrong : Checks.outside(0, 999)) {
            checks.due("9: person(" + wrong + ")", () -> x.person(wrong), ARGUMENT);
        }
        checks.due("9: nobody came by that", () -> x.house(8), 0);
        for (int k = 0; k < PEOPLE; k++) {
            int value = k % 2 == 0 ? 0 : 999;
            checks.due("9: person(" + value + ")", () -> x.person(value), k);
        }
        checks.due("9: there are 8", () -> x.person(0), STATE);
        for (int wrong : Checks.outside(0, 999)) {
            checks.due("9: wrong value before 8: " + wrong, () -> x.person(wrong), ARGUMENT);
        }
        checks.due("9: there are still 8", () -> x.house(8), 8);
    }

    private static void promise10() {
        Degreewall x = new Degreewall();
        for (int k = 0; k < ASKERS; k++) {
            int asker = k;
            checks.due("10: " + asker + " is not there yet", () -> x.ofAsker(asker, 0), INDEX);
            checks.due("10: asker " + asker, x::asker, asker);
            checks.due("10: its circle is itself", () -> x.ofAsker(asker, 0), 1 << asker);
        }
        checks.due("10: there are 4", x::asker, STATE);
        checks.due("10: there are still 4", x::asker, STATE);
        checks.due("10: how many there are", () -> x.house(9), 4);
        checks.due("10: 4 is no asker", () -> x.ofAsker(4, 0), INDEX);
    }

    private static void promise11() {
        Degreewall x = new Degreewall();
        int before = 2;
        for (int least : new int[] {1, 5, 4, 3, 2, 1, 1, 5, 5}) {
            checks.due("11: least(" + least + ") answers that before", () -> x.least(least), before);
            for (int wrong : Checks.outside(1, 5)) {
                checks.due("11: least(" + wrong + ")", () -> x.least(wrong), ARGUMENT);
            }
            checks.due("11: least is " + least, () -> x.house(10), least);
            before = least;
        }
    }

    private static void promise12() {
        for (int k = 0; k <= PEOPLE; k++) {
            int all = (1 << k) - 1;
            Degreewall x = Offices.withPeople(k, ASKERS);
            String there = "12: with " + k + " people: ";
            checks.due(there + "empty", () -> x.ask(0, 0), ARGUMENT);
            for (int wrong : Checks.outside(0, all)) {
                checks.due(there + "ask(0, " + wrong + ")", () -> x.ask(0, wrong), ARGUMENT);
            }
            for (int wrong : Checks.outside(0, 3)) {
                checks.due(there + "no asker " + wrong, () -> x.ask(wrong, 3), INDEX);
                checks.due(there + "no asker " + wrong + " before empty", () -> x.ask(wrong, 0), INDEX);
                checks.due(there + "no asker " + wrong + " before no set", () -> x.ask(wrong, all + 1), INDEX);
            }
            checks.due(there + "nothing is counted by that", () -> x.house(12), 0);
            if (k >= 2) {
                checks.due(there + "all of them, the first asker", () -> x.ask(0, all), all);
                checks.due(there + "all of them, the last asker", () -> x.ask(3, all), all);
            }
        }
        Degreewall y = new Degreewall();
        for (int k = 0; k < PEOPLE; k++) {
            y.person(999);
        }
        y.asker();
        checks.due("12: the greatest sum", () -> y.ask(0, EVERYBODY), 7992);
        checks.due("12: 1 of one asker", () -> y.ask(1, EVERYBODY), INDEX);
        Degreewall z = new Degreewall();
        z.person(0);
        z.person(0);
        z.person(0);
        z.asker();
        checks.due("12: the smallest sum", () -> z.ask(0, 3), 0);
        checks.due("12: it was told", () -> z.house(11), 1);
        checks.due("12: it counts, though it is 0", () -> z.ask(0, 7), -1);
    }

    private static void promise12Least() {
        for (int k = 2; k <= 5; k++) {
            int enough = (1 << k) - 1;
            Degreewall x = Offices.withPeople(PEOPLE, ASKERS);
            x.least(k);
            checks.due("12: one fewer than " + k, () -> x.ask(0, enough >> 1), -1);
            checks.due("12: one fewer than " + k + ", from the end", () -> x.ask(0, EVERYBODY & ~(EVERYBODY >> 1)), -1);
            checks.due("12: just " + k, () -> x.ask(0, enough), enough);
            checks.due("12: one refused for one fewer, each", () -> x.ofAsker(0, 3), 2);
        }
        Degreewall x = Offices.withPeople(PEOPLE, 1);
        x.least(1);
        checks.due("12: one person is enough for least, but given away", () -> x.ask(0, 128), -1);
        checks.due("12: two are not given away", () -> x.ask(0, 192), 192);
        x.least(3);
        checks.due("12: fewer than least, though it was told before", () -> x.ask(0, 192), -1);
        x.least(2);
        checks.due("12: told again, and counted again", () -> x.ask(0, 192), 192);
        checks.due("12: told, each time", () -> x.ofAsker(0, 2), 2);
        checks.due("12: too few and given away is refused once", () -> x.ask(0, 64), -1);
        checks.due("12: refused, once each", () -> x.ofAsker(0, 3), 3);
    }

    private static void promise12GivenAway() {
        Degreewall x = Offices.withPeople(PEOPLE, ASKERS);
        x.ask(0, 7);
        checks.due("12: the one who is missing would be given away", () -> x.ask(0, 3), -1);
        checks.due("12: the one who is more would be given away", () -> x.ask(0, 15), -1);
        checks.due("12: two who are more", () -> x.ask(0, 31), 31);
        checks.due("12: another asker may hear it", () -> x.ask(1, 3), 3);
        x.talk(2, 0);
        x.talk(3, 2);
        checks.due("12: not one of the circle, by way of others", () -> x.ask(3, 3), -1);
        checks.due("12: what all heard follows", () -> x.ask(3, 24), 24);

        Degreewall y = Offices.withPeople(PEOPLE, 1);
        for (int k = 1; k < PEOPLE; k++) {
            y.ask(0, 1 | 1 << k);
        }
        checks.due("12: seven sums of eight people", () -> y.ofAsker(0, 2), 7);
        checks.due("12: of which none follows", () -> y.ofAsker(0, 1), 7);
        checks.due("12: an eighth of which would give all away", () -> y.ask(0, EVERYBODY), -1);
        checks.due("12: by halves, too", () -> y.ask(0, 192), -1);
        checks.due("12: told again", () -> y.ask(0, 129), 129);
        checks.due("12: the eighth gave nothing", () -> y.ofAsker(0, 1), 7);
    }

    /** Of n people, each sum of all but one: with the last of these, everybody is given away by (n - 1)-ths. */
    private static void promise12BrokenNumbers() {
        for (int n = 3; n <= PEOPLE; n++) {
            int all = (1 << n) - 1;
            Degreewall x = Offices.withPeople(n, 1);
            String there = "12: with " + n + " people: ";
            for (int k = 0; k < n - 1; k++) {
                int allButOne = all & ~(1 << k);
                checks.due(there + "all but " + k, () -> x.ask(0, allButOne), allButOne);
            }
            checks.due(there + "all but the last, too, is refused", () -> x.ask(0, all >> 1), -1);
            checks.due(there + "everybody would be given away", () -> x.wouldGive(0, all >> 1), all);
            checks.due(there + "one sum is missing", () -> x.ofAsker(0, 1), n - 1);
        }
    }

    private static void promise12StaysTold() {
        Degreewall x = Offices.withPeople(3, 1);
        x.ask(0, 7);
        x.least(5);
        checks.due("12: least changes nothing in what was told", () -> x.derived(0, 7), 7);
        checks.due("12: nor in the rank", () -> x.ofAsker(0, 1), 1);
        x.person(8);
        x.person(16);
        checks.due("12: people who come change nothing in it", () -> x.derived(0, 7), 7);
        checks.due("12: they are not in it", () -> x.derived(0, 31), -1);
        checks.due("12: nor one of them", () -> x.derived(0, 15), -1);
        x.least(2);
        checks.due("12: who came would be given away", () -> x.ask(0, 15), -1);
        checks.due("12: both who came would not", () -> x.ask(0, 31), 31);
    }

    private static void promise13() {
        Degreewall x = Offices.withPeople(PEOPLE, ASKERS);
        for (int wrong : Checks.outside(0, 3)) {
            checks.due("13: one is " + wrong, () -> x.talk(wrong, 3), INDEX);
            checks.due("13: other is " + wrong, () -> x.talk(0, wrong), INDEX);
            checks.due("13: both are " + wrong + ": no asker before the same", () -> x.talk(wrong, wrong), INDEX);
        }
        for (int k = 0; k < ASKERS; k++) {
            int both = k;
            checks.due("13: both are " + both, () -> x.talk(both, both), ARGUMENT);
        }
        checks.due("13: nothing is counted by that", () -> x.house(12), 0);
        checks.due("13: the first and the last asker", () -> x.talk(0, 3), true);
        checks.due("13: they talk already", () -> x.talk(3, 0), true);
        checks.due("13: their circle", () -> x.ofAsker(3, 0), 9);
        Degreewall y = Offices.withPeople(0, 2);
        checks.due("13: 2 of two askers", () -> y.talk(0, 2), INDEX);
        checks.due("13: without people", () -> y.talk(1, 0), true);
    }

    private static void promise13Circles() {
        Degreewall x = Offices.withPeople(PEOPLE, ASKERS);
        x.ask(0, 3);
        x.ask(1, 31);
        x.ask(2, 28);
        checks.due("13: nobody is given away by two of three sums", () -> x.talk(0, 1), true);
        checks.due("13: nobody by the third that follows", () -> x.talk(2, 1), true);
        checks.due("13: a circle by way of another", () -> x.ofAsker(0, 0), 7);
        checks.due("13: two of a circle begin to talk themselves", () -> x.talk(0, 2), true);
        checks.due("13: told to one alone", () -> x.ask(3, 7), 7);
        for (int k = 0; k < 3; k++) {
            int other = k;
            checks.due("13: whoever of the circle it is", () -> x.talk(3, other), false);
            checks.due("13: counted at the one", () -> x.ofAsker(3, 3), other + 1);
            checks.due("13: not at the other", () -> x.ofAsker(other, 3), 0);
        }
        checks.due("13: the other one is the one now", () -> x.talk(1, 3), false);
        checks.due("13: counted there", () -> x.ofAsker(1, 3), 1);
        checks.due("13: counted in all", () -> x.house(12), 4);
        checks.due("13: they do not talk", () -> x.ofAsker(3, 0), 8);
        checks.due("13: nor does the circle", () -> x.ofAsker(1, 0), 7);
        Degreewall y = Offices.withPeople(PEOPLE, ASKERS);
        checks.due("13: three talks make one circle", () -> y.talk(0, 1) && y.talk(2, 3) && y.talk(3, 0), true);
        for (int k = 0; k < ASKERS; k++) {
            int asker = k;
            checks.due("13: of all four", () -> y.ofAsker(asker, 0), 15);
        }
    }

    private static void promise14() {
        Degreewall x = Offices.withLine(SOURCES);
        Degreewall apart = Offices.withSources(SOURCES);
        for (int k = 0; k < SOURCES; k++) {
            int far = k;
            checks.due("14: itself", () -> apart.degree(far, far), 0);
            checks.due("14: so many steps", () -> x.degree(0, far), far);
            checks.due("14: so many steps back", () -> x.degree(far, 0), far);
        }
        checks.due("14: no way", () -> apart.degree(0, 6), -1);
        checks.due("14: no way", () -> apart.degree(6, 0), -1);
        x.kin(6, 0, true);
        checks.due("14: the fewest in a ring", () -> x.degree(0, 6), 1);
        checks.due("14: the fewest in a ring", () -> x.degree(0, 4), 3);
        x.bar(0);
        checks.due("14: whatever the bar is", () -> x.degree(0, 3), 3);
        for (int wrong : Checks.outside(0, 6)) {
            checks.due("14: one is " + wrong, () -> x.degree(wrong, 6), INDEX);
            checks.due("14: other is " + wrong, () -> x.degree(0, wrong), INDEX);
            checks.due("14: both are " + wrong, () -> x.degree(wrong, wrong), INDEX);
        }
        checks.due("14: 3 of three sources", () -> Offices.withSources(3).degree(2, 3), INDEX);
    }

    private static void promise15() {
        Degreewall x = Offices.withSources(SOURCES);
        for (int what = 0; what <= 3; what++) {
            int it = what;
            checks.due("15: empty, what " + it, () -> x.ofSource(0, it), 0);
            checks.due("15: empty, what " + it, () -> x.ofSource(6, it), 0);
        }
        for (int k = 1; k < SOURCES; k++) {
            x.kin(0, k, true);
            x.permit(k - 1, k, 0);
        }
        for (int k = 0; k < 10; k++) {
            x.join(0, 0);
        }
        checks.due("15: all others are kin", () -> x.ofSource(0, 0), 126);
        checks.due("15: all others are within", () -> x.ofSource(0, 1), 126);
        checks.due("15: chains lead to all others", () -> x.ofSource(0, 2), 126);
        checks.due("15: chains lead to all others", () -> x.ofSource(6, 2), 63);
        checks.due("15: kin of 6", () -> x.ofSource(6, 0), 1);
        checks.due("15: in all 10 tables", () -> x.ofSource(0, 3), 10);
        checks.due("15: in none", () -> x.ofSource(6, 3), 0);
        x.bar(2);
        checks.due("15: all others are within 2", () -> x.ofSource(6, 1), 63);
        x.pass(1);
        checks.due("15: no chain behind the last day", () -> x.ofSource(0, 2), 0);
        for (int wrong : Checks.outside(0, 3)) {
            checks.due("15: what is " + wrong, () -> x.ofSource(0, wrong), ARGUMENT);
        }
        for (int wrong : Checks.outside(0, 6)) {
            checks.due("15: no source " + wrong, () -> x.ofSource(wrong, 0), INDEX);
            checks.due("15: no source " + wrong + " before what", () -> x.ofSource(wrong, 4), INDEX);
        }
        Degreewall y = Offices.withTables(10);
        y.bar(2);
        checks.due("15: struck ones are not there", () -> y.ofSource(0, 3), 0);
    }

    private static void promise16() {
        Degreewall x = Offices.withTables(10);
        for (int wrong : Checks.outside(10, 19)) {
            checks.due("16: no table " + wrong, () -> x.ofTable(wrong, 0), INDEX);
            checks.due("16: no table " + wrong + " before what", () -> x.ofTable(wrong, 2), INDEX);
        }
        for (int wrong : Checks.outside(0, 1)) {
            checks.due("16: what is " + wrong, () -> x.ofTable(10, wrong), ARGUMENT);
        }
        for (int k = 10; k < 20; k++) {
            int table = k;
            checks.due("16: its line", () -> x.ofTable(table, 0), 5);
            checks.due("16: not struck", () -> x.ofTable(table, 1), 0);
        }
        x.bar(2);
        for (int k = 10; k < 20; k++) {
            int table = k;
            checks.due("16: its line, also if it is struck", () -> x.ofTable(table, 0), 5);
            checks.due("16: struck", () -> x.ofTable(table, 1), 1);
        }
        checks.due("16: 13 of three tables", () -> Offices.withTables(3).ofTable(13, 0), INDEX);
        checks.due("16: 12 of three tables", () -> Offices.withTables(3).ofTable(12, 0), 5);
        checks.due("16: a source is no table", () -> Offices.withTables(3).ofTable(0, 0), INDEX);
    }

    private static void promise17() {
        Degreewall x = Offices.withSources(SOURCES);
        x.permit(6, 0, 999);
        for (int k = 1; k < PERMITS; k++) {
            x.permit(0, 6, 0);
        }
        checks.due("17: the smaller source", () -> x.ofPermit(0, 0), 0);
        checks.due("17: the greater source", () -> x.ofPermit(0, 1), 6);
        checks.due("17: the smaller source, given first", () -> x.ofPermit(7, 0), 0);
        checks.due("17: the greater source, given behind", () -> x.ofPermit(7, 1), 6);
        checks.due("17: last day 999", () -> x.ofPermit(0, 2), 999);
        checks.due("17: last day 0", () -> x.ofPermit(7, 2), 0);
        for (int wrong : Checks.outside(0, 4)) {
            checks.due("17: what is " + wrong, () -> x.ofPermit(0, wrong), ARGUMENT);
        }
        for (int wrong : Checks.outside(0, 7)) {
            checks.due("17: no permit " + wrong, () -> x.ofPermit(wrong, 0), INDEX);
            checks.due("17: no permit " + wrong + " before what", () -> x.ofPermit(wrong, 5), INDEX);
        }
        checks.due("17: 3 of three permits", () -> Offices.withPermits(3, 0).ofPermit(3, 0), INDEX);
    }

    private static void promise17Force() {
        Degreewall x = Offices.withPermits(2, 5);
        x.kin(0, 1, true);
        x.pass(4);
        checks.due("17: the day before its last one", () -> x.ofPermit(0, 3), 1);
        x.pass(1);
        checks.due("17: on its last day", () -> x.ofPermit(0, 3), 1);
        checks.due("17: of the repair on its last day", () -> x.ofPermit(0, 4), 1);
        checks.due("17: a leak on its last day", () -> x.house(5), 1);
        checks.due("17: a chain on its last day", () -> x.chain(0, 1), 1);
        x.revoke(1);
        checks.due("17: revoked on its last day", () -> x.ofPermit(1, 3), 0);
        checks.due("17: a revoked one is of no repair", () -> x.ofPermit(1, 4), 0);
        x.pass(1);
        checks.due("17: the day behind it", () -> x.ofPermit(0, 3), 0);
        checks.due("17: not of the repair behind it", () -> x.ofPermit(0, 4), 0);
        checks.due("17: no leak behind it", () -> x.house(5), 0);
        checks.due("17: no chain behind it", () -> x.chain(0, 1), -1);
        checks.due("17: its last day stays", () -> x.ofPermit(0, 2), 5);
    }

    private static void promise17Repair() {
        Degreewall x = Offices.withPermits(PERMITS, 5);
        checks.due("17: no leak, the empty repair", () -> x.house(6), 0);
        x.kin(0, 1, true);
        checks.due("17: all 8 are to be taken back", () -> x.house(6), 255);
        for (int k = 0; k < PERMITS; k++) {
            int permit = k;
            checks.due("17: each is of the repair", () -> x.ofPermit(permit, 4), 1);
        }
        x.bar(0);
        checks.due("17: nobody is within 0", () -> x.house(6), 0);
        Degreewall y = Offices.withLine(SOURCES);
        y.bar(5);
        y.kin(5, 6, false);
        for (int k = 1; k < SOURCES; k++) {
            y.permit(k - 1, k, 9);
        }
        checks.due("17: each but the last one leaks by itself", () -> y.house(6), 31);
        for (int k = 1; k < SOURCES; k++) {
            y.kin(k - 1, k, false);
        }
        checks.due("17: no kin, no leak", () -> y.house(6), 0);
        y.bar(1);
        y.kin(0, 6, true);
        checks.due("17: of six the first one", () -> y.house(6), 1);
        y.revoke(0);
        checks.due("17: no chain any more", () -> y.house(6), 0);
        y.permit(0, 1, 0);
        checks.due("17: of six the first one that is in force", () -> y.house(6), 2);
        y.kin(0, 5, true);
        checks.due("17: one for two leaks", () -> y.house(6), 2);
        y.kin(0, 1, true);
        checks.due("17: one for three leaks, not the first one", () -> y.house(6), 64);
        y.pass(1);
        checks.due("17: it has ended, no leak", () -> y.house(6), 0);
        Degreewall z = Offices.withSources(4);
        z.permit(0, 1, 9);
        z.permit(0, 2, 9);
        z.permit(0, 3, 9);
        z.kin(1, 3, true);
        z.kin(2, 3, true);
        checks.due("17: the fewest, though both others together come first", () -> z.house(6), 4);
        z.revoke(1);
        checks.due("17: of two that are as few the first one", () -> z.house(6), 1);
    }

    private static void promise18() {
        Degreewall x = Offices.withPeople(PEOPLE, ASKERS);
        for (int wrong : Checks.outside(0, 3)) {
            checks.due("18: what is " + wrong, () -> x.ofAsker(0, wrong), ARGUMENT);
            checks.due("18: no asker " + wrong, () -> x.ofAsker(wrong, 0), INDEX);
            checks.due("18: no asker " + wrong + " before what", () -> x.ofAsker(wrong, 4), INDEX);
        }
        for (int k = 0; k < ASKERS; k++) {
            int asker = k;
            checks.due("18: alone in its circle", () -> x.ofAsker(asker, 0), 1 << asker);
            checks.due("18: rank of nothing", () -> x.ofAsker(asker, 1), 0);
            checks.due("18: nothing told", () -> x.ofAsker(asker, 2), 0);
            checks.due("18: nothing refused", () -> x.ofAsker(asker, 3), 0);
        }
        for (int k = 1; k <= 3; k++) {
            int times = k;
            x.ask(3, EVERYBODY);
            x.ask(3, 1);
            checks.due("18: told, each time", () -> x.ofAsker(3, 2), times);
            checks.due("18: refused, each time", () -> x.ofAsker(3, 3), times);
            checks.due("18: rank of one sum", () -> x.ofAsker(3, 1), 1);
        }
        checks.due("18: not to another one", () -> x.ofAsker(0, 2), 0);
        checks.due("18: 2 of two askers", () -> Offices.withPeople(1, 2).ofAsker(2, 0), INDEX);
    }

    private static void promise18Rank() {
        Degreewall x = Offices.withPeople(PEOPLE, 2);
        for (int k = 1; k < PEOPLE; k++) {
            int rank = k;
            checks.due("18: one rank less", () -> x.ofAsker(0, 1), rank - 1);
            x.ask(0, 1 << rank | 1 << rank - 1);
            checks.due("18: rank " + rank, () -> x.ofAsker(0, 1), rank);
        }
        x.ask(0, 129);
        checks.due("18: a sum that follows, below 0 and above", () -> x.ofAsker(0, 1), 7);
        checks.due("18: it was told", () -> x.ofAsker(0, 2), 8);
        checks.due("18: nobody told the other one", () -> x.ofAsker(1, 1), 0);
        x.talk(0, 1);
        checks.due("18: rank of the circle", () -> x.ofAsker(1, 1), 7);
        checks.due("18: told to it alone", () -> x.ofAsker(1, 2), 0);
    }

    private static void promise19() {
        for (int k = 0; k <= PEOPLE; k++) {
            int all = (1 << k) - 1;
            Degreewall x = Offices.withPeople(k, ASKERS);
            String there = "19: with " + k + " people: ";
            checks.due(there + "the empty set is derived by nothing", () -> x.derived(0, 0), 0);
            for (int wrong : Checks.outside(0, all)) {
                checks.due(there + "derived(0, " + wrong + ")", () -> x.derived(0, wrong), ARGUMENT);
            }
            for (int wrong : Checks.outside(0, 3)) {
                checks.due(there + "no asker " + wrong, () -> x.derived(wrong, 0), INDEX);
                checks.due(there + "no asker " + wrong + " before no set", () -> x.derived(wrong, all + 1), INDEX);
            }
            if (k >= 2) {
                checks.due(there + "all of them, not told", () -> x.derived(3, all), -1);
                x.ask(3, all);
                checks.due(there + "all of them", () -> x.derived(3, all), all);
                checks.due(there + "one less", () -> x.derived(3, all >> 1), -1);
                checks.due(there + "the first alone", () -> x.derived(3, 1), -1);
                checks.due(there + "the empty set", () -> x.derived(3, 0), 0);
                checks.due(there + "not to another asker", () -> x.derived(0, all), -1);
            }
        }
        Degreewall y = Offices.withPeople(PEOPLE, 1);
        y.ask(0, EVERYBODY);
        y.ask(0, 15);
        checks.due("19: a number below 0", () -> y.derived(0, 240), 240);
        checks.due("19: not half of one", () -> y.derived(0, 3), -1);
        checks.due("19: not to one who comes", () -> y.derived(y.asker(), 240), -1);
        y.asker();
        y.talk(1, 2);
        y.talk(2, 0);
        checks.due("19: by the circle, by way of another", () -> y.derived(1, 240), 240);
        Degreewall z = new Degreewall();
        z.person(999);
        z.person(999);
        z.asker();
        z.ask(0, 3);
        checks.due("19: a great sum", () -> z.derived(0, 3), 1998);
    }

    private static void promise20() {
        Degreewall x = new Degreewall();
        for (int wrong : Checks.outside(0, 13)) {
            checks.due("20: house(" + wrong + ")", () -> x.house(wrong), ARGUMENT);
        }
        checks.due("20: the first what", () -> x.house(0), 0);
        checks.due("20: the last what", () -> x.house(13), 0);
        int[] full = {7, 5, 5, 2, 5, 8, 188, 3650, 8, 4, 3, 3, 1, 1};
        Degreewall y = Offices.full();
        for (int k = 0; k < full.length; k++) {
            int what = k;
            checks.due("20: full, house(" + what + ")", () -> y.house(what), full[what]);
        }
    }

    private static void promise20Greatest() {
        Degreewall x = Offices.withTables(10);
        checks.due("20: 10 tables that are there", () -> x.house(1), 10);
        checks.due("20: none struck", () -> x.house(2), 0);
        x.bar(5);
        checks.due("20: none is there", () -> x.house(1), 0);
        checks.due("20: 10 struck", () -> x.house(2), 10);
        checks.due("20: the greatest bar", () -> x.house(3), 5);
        x.kin(0, 6, true);
        for (int k = 1; k < SOURCES; k++) {
            x.permit(k - 1, k, 1);
        }
        checks.due("20: all 21 pairs leak", () -> x.house(5), 21);
        x.permit(0, 6, 1);
        checks.due("20: a pair leaks once, by however many chains", () -> x.house(5), 21);
        x.permit(0, 6, 1);
        checks.due("20: 8 permits in force", () -> x.house(4), 8);
        checks.due("20: all of the repair", () -> x.house(6), 255);
        x.bar(0);
        checks.due("20: no leak within 0", () -> x.house(5), 0);
        Degreewall y = Offices.withLine(3);
        y.permit(0, 2, 1);
        checks.due("20: one step above the bar is no leak", () -> y.house(5), 0);
        y.bar(2);
        checks.due("20: just the bar is a leak", () -> y.house(5), 1);
        Degreewall z = Offices.withPeople(2, 2);
        z.ask(0, 3);
        z.ask(0, 3);
        z.ask(1, 3);
        z.ask(0, 1);
        z.ask(1, 2);
        checks.due("20: told ever, each time", () -> z.house(11), 3);
        checks.due("20: refused ever", () -> z.house(12), 2);
        checks.due("20: refused sums do not knock", () -> z.house(13), 0);
    }

    private static void promise21() {
        checks.due("21: one source", () -> Offices.withSources(1).row(0), "0");
        checks.due("21: no degrees", () -> Offices.withSources(SOURCES).row(6), "------0");
        checks.due("21: no degrees", () -> Offices.withSources(SOURCES).row(0), "0------");
        checks.due("21: all degrees", () -> Offices.withLine(SOURCES).row(0), "0123456");
        checks.due("21: all degrees", () -> Offices.withLine(SOURCES).row(6), "6543210");
        for (int k = 0; k <= SOURCES; k++) {
            Degreewall x = Offices.withSources(k);
            for (int wrong : Checks.outside(0, k - 1)) {
                checks.due("21: no source " + wrong + " of " + k, () -> x.row(wrong), INDEX);
            }
        }
    }

    private static void promise22() {
        Degreewall x = Offices.withLine(SOURCES);
        checks.due("22: the smallest pair", () -> x.wouldJoin(0, 1), 1);
        checks.due("22: the same, the other way round", () -> x.wouldJoin(1, 0), 1);
        checks.due("22: the greatest pair", () -> x.wouldJoin(6, 5), 56);
        checks.due("22: no pair", () -> x.wouldJoin(0, 6), -1);
        checks.due("22: a source and itself", () -> x.wouldJoin(3, 3), -1);
        x.join(0, 2);
        x.join(4, 6);
        x.join(10, 11);
        checks.due("22: of 1 and 12 the smallest", () -> x.wouldJoin(10, 1), 1);
        checks.due("22: of 45 and 56 the smallest", () -> x.wouldJoin(5, 12), 45);
        checks.due("22: two tables without a pair", () -> x.wouldJoin(11, 12), -1);
        x.kin(1, 6, true);
        checks.due("22: of 1, 12 and 16 the smallest", () -> x.wouldJoin(1, 12), 1);
        x.kin(0, 1, false);
        checks.due("22: of 12 and 16 the smallest", () -> x.wouldJoin(12, 1), 12);
        x.kin(1, 2, false);
        checks.due("22: 16 alone", () -> x.wouldJoin(12, 1), 16);
        for (int wrong : new int[] {LOWEST, LOWEST + 10, -22, -1, 7, 8, 9, 13, 19, 20, 32, 42, 256, 266, HIGHEST}) {
            checks.due("22: one is " + wrong, () -> x.wouldJoin(wrong, 0), INDEX);
            checks.due("22: other is " + wrong, () -> x.wouldJoin(12, wrong), INDEX);
            checks.due("22: both are " + wrong, () -> x.wouldJoin(wrong, wrong), INDEX);
        }
        x.kin(2, 4, true);
        checks.due("22: a table that is struck", () -> x.wouldJoin(12, 0), INDEX);
        checks.due("22: a table that is struck", () -> x.wouldJoin(0, 12), INDEX);
        checks.due("22: one that is not", () -> x.wouldJoin(10, 11), 24);
        x.bar(0);
        checks.due("22: no pair is within 0", () -> x.wouldJoin(10, 11), -1);
    }

    private static void promise23() {
        Degreewall x = Offices.withPeople(PEOPLE, ASKERS);
        for (int wrong : Checks.outside(1, EVERYBODY)) {
            checks.due("23: wouldGive(0, " + wrong + ")", () -> x.wouldGive(0, wrong), ARGUMENT);
        }
        for (int wrong : Checks.outside(0, 3)) {
            checks.due("23: no asker " + wrong, () -> x.wouldGive(wrong, 3), INDEX);
            checks.due("23: no asker " + wrong + " before empty", () -> x.wouldGive(wrong, 0), INDEX);
            checks.due("23: no asker " + wrong + " before no set", () -> x.wouldGive(wrong, 256), INDEX);
        }
        checks.due("23: nobody", () -> x.wouldGive(0, EVERYBODY), 0);
        checks.due("23: the first", () -> x.wouldGive(0, 1), 1);
        checks.due("23: the last", () -> x.wouldGive(3, 128), 128);
        for (int k = 1; k < PEOPLE; k++) {
            x.ask(3, 1 | 1 << k);
        }
        for (int least = 1; least <= 5; least++) {
            x.least(least);
            checks.due("23: everybody, whatever least is", () -> x.wouldGive(3, EVERYBODY), EVERYBODY);
            checks.due("23: everybody, whatever least is", () -> x.wouldGive(3, 64), EVERYBODY);
            checks.due("23: nobody, whatever least is", () -> x.wouldGive(3, 3), 0);
        }
        checks.due("23: nobody was", () -> x.derived(3, 64), -1);
        checks.due("23: nothing is refused", () -> x.house(12), 0);
        Degreewall y = Offices.withPeople(3, 1);
        checks.due("23: all of three people", () -> y.wouldGive(0, 7), 0);
        checks.due("23: 8 of three people", () -> y.wouldGive(0, 8), ARGUMENT);
    }

    private static void promise24() {
        Degreewall x = Offices.withPeople(PEOPLE, ASKERS);
        for (int wrong : Checks.outside(0, 3)) {
            checks.due("24: one is " + wrong, () -> x.wouldTalk(wrong, 3), INDEX);
            checks.due("24: other is " + wrong, () -> x.wouldTalk(0, wrong), INDEX);
            checks.due("24: both are " + wrong, () -> x.wouldTalk(wrong, wrong), INDEX);
        }
        checks.due("24: nothing told, nobody", () -> x.wouldTalk(0, 3), 0);
        for (int k = 1; k < PEOPLE; k++) {
            x.ask(0, 1 | 1 << k);
        }
        x.ask(3, EVERYBODY);
        checks.due("24: everybody", () -> x.wouldTalk(0, 3), EVERYBODY);
        checks.due("24: everybody", () -> x.wouldTalk(3, 0), EVERYBODY);
        checks.due("24: an asker and itself: nobody", () -> x.wouldTalk(0, 0), 0);
        checks.due("24: one who heard nothing: nobody", () -> x.wouldTalk(1, 3), 0);
        x.talk(1, 3);
        checks.due("24: who talk already: nobody", () -> x.wouldTalk(3, 1), 0);
        checks.due("24: by way of another: everybody", () -> x.wouldTalk(1, 0), EVERYBODY);
        checks.due("24: nothing is refused", () -> x.house(12), 0);
        checks.due("24: 2 of two askers", () -> Offices.withPeople(1, 2).wouldTalk(0, 2), INDEX);
        Degreewall y = Offices.withPeople(PEOPLE, 2);
        y.ask(0, 127);
        y.ask(1, EVERYBODY);
        checks.due("24: the last person alone", () -> y.wouldTalk(0, 1), 128);
    }

    private static void promise25() {
        Degreewall x = Offices.withSources(SOURCES);
        checks.due("25: no permit", () -> x.chain(0, 6), -1);
        for (int k = 1; k < SOURCES; k++) {
            x.permit(k - 1, k, 3);
        }
        for (int k = 0; k < SOURCES; k++) {
            int far = k;
            checks.due("25: so many permits", () -> x.chain(0, far), far);
            checks.due("25: so many permits back", () -> x.chain(far, 0), far);
            checks.due("25: itself", () -> x.chain(far, far), 0);
        }
        x.permit(6, 0, 2);
        x.permit(0, 6, 1);
        checks.due("25: the fewest", () -> x.chain(0, 6), 1);
        x.pass(2);
        checks.due("25: on the last day of one of two", () -> x.chain(0, 6), 1);
        x.pass(1);
        checks.due("25: behind it, on the last day of the others", () -> x.chain(0, 6), 6);
        x.pass(1);
        checks.due("25: behind that", () -> x.chain(0, 6), -1);
        checks.due("25: itself, without a permit", () -> x.chain(6, 6), 0);
        for (int wrong : Checks.outside(0, 6)) {
            checks.due("25: one is " + wrong, () -> x.chain(wrong, 6), INDEX);
            checks.due("25: other is " + wrong, () -> x.chain(0, wrong), INDEX);
            checks.due("25: both are " + wrong, () -> x.chain(wrong, wrong), INDEX);
        }
        checks.due("25: 3 of three sources", () -> Offices.withSources(3).chain(2, 3), INDEX);
    }

    private static void promise26() {
        checks.due("26: a new office", () -> new Degreewall().isSound(), true);
        checks.due("26: some of each", () -> Offices.some().isSound(), true);
        checks.due("26: full", () -> Offices.full().isSound(), true);
        Degreewall x = Offices.withTables(10);
        for (int k = 0; k < PERMITS; k++) {
            x.permit(k % 2, 2 + k % 5, 0);
        }
        for (int k = 0; k <= 5; k++) {
            x.bar(k);
            checks.due("26: leaks with a repair, bar " + k, x::isSound, true);
        }
        Degreewall y = Offices.withPeople(PEOPLE, ASKERS);
        for (int k = 1; k < PEOPLE; k++) {
            y.ask(0, 1 | 1 << k);
        }
        y.ask(1, EVERYBODY);
        y.talk(0, 1);
        y.ask(0, 7);
        y.ask(0, 1);
        checks.due("26: nobody is given away by what was refused", y::isSound, true);
    }

    private static void promise27() {
        Degreewall x = new Degreewall();
        for (int k = 1; k <= 512; k++) {
            checks.due("27: knock number " + k, x::knock, k);
        }
        Degreewall y = Offices.full();
        checks.due("27: the door is open on the last day, too", y::knock, 2);
        checks.due("27: counted", () -> y.house(13), 2);
    }

    private static void promise28() {
        checks.due("28: a new office", () -> new Degreewall().digest(), digestOf(new Degreewall()));
        checks.due("28: some of each", () -> Offices.some().digest(), digestOf(Offices.some()));
        checks.due("28: full", () -> Offices.full().digest(), digestOf(Offices.full()));
        Degreewall x = Offices.withPeople(0, ASKERS);
        checks.due("28: nobody, derived all the same", x::digest, digestOf(Offices.withPeople(0, ASKERS)));
        Degreewall y = Offices.full();
        long due = digestOf(Offices.full());
        for (int call = Offices.CALLS_TO_FULL + 1; call <= 512; call++) {
            checks.due("28: the same each time, up to the 512th call", y::digest, due);
        }
    }

    /** Reckoned with numbers that do not wrap around, of which the last 64 bits are taken at the end. */
    private static long digestOf(Degreewall x) {
        List<Integer> all = new ArrayList<>();
        for (int what = 0; what <= 13; what++) {
            all.add(x.house(what));
        }
        for (int source = 0; source < x.house(0); source++) {
            for (int what = 0; what <= 3; what++) {
                all.add(x.ofSource(source, what));
            }
        }
        for (int table = 10; table < 10 + x.house(1) + x.house(2); table++) {
            all.add(x.ofTable(table, 0));
            all.add(x.ofTable(table, 1));
        }
        for (int permit = 0; !Checks.answerOf(inForce(x, permit)).equals(INDEX); permit++) {
            for (int what = 0; what <= 4; what++) {
                all.add(x.ofPermit(permit, what));
            }
        }
        for (int asker = 0; asker < x.house(9); asker++) {
            for (int what = 0; what <= 3; what++) {
                all.add(x.ofAsker(asker, what));
            }
            all.add(x.derived(asker, (1 << x.house(8)) - 1));
        }
        all.add(x.isSound() ? 1 : 0);
        BigInteger d = BigInteger.valueOf(8839);
        for (int v : all) {
            d = d.multiply(BigInteger.valueOf(31)).add(BigInteger.valueOf(v));
        }
        return d.longValue();
    }

    private static Callable<?> inForce(Degreewall x, int permit) {
        return () -> x.ofPermit(permit, 3);
    }
}
