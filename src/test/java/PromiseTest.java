/** Each promise of the document by its number: ordinary inputs, edges, and wrong inputs. */
public final class PromiseTest {
    private static final String INDEX = Checks.INDEX;
    private static final String ARGUMENT = Checks.ARGUMENT;
    private static final String STATE = Checks.STATE;
    private static final int LOWEST = Checks.LOWEST;
    private static final int HIGHEST = Checks.HIGHEST;
    private static final Checks checks = new Checks();

    public static void main(String[] args) {
        promise1();
        promise2();
        promise3();
        promise4();
        promise5();
        promise5Limits();
        promise6();
        promise7();
        promise8();
        promise9();
        promise10();
        promise11();
        promise12();
        promise12WhatIsDerived();
        promise13();
        promise14();
        promise15();
        promise16();
        promise17();
        promise17Repair();
        promise18();
        promise19();
        promise20();
        promise21();
        promise22();
        promise23();
        promise24();
        promise25();
        promise26();
        promise27();
        promise28();
        checks.end();
    }

    private static void promise1() {
        Degreewall x = new Degreewall();
        checks.due("1: a new house", () -> Offices.houseOf(x), "0 0 0 1 0 0 0 0 0 0 2 0 0 0");
        checks.due("1: a new house is sound", x::isSound, true);
        Degreewall y = new Degreewall();
        y.source();
        checks.due("1: each object is its own", () -> x.house(0), 0);
    }

    private static void promise2() {
        Degreewall x = new Degreewall();
        for (int k = 0; k < 7; k++) {
            checks.due("2: source()", x::source, k);
        }
        checks.due("2: the eighth source", x::source, STATE);
        checks.due("2: 7 sources", () -> x.house(0), 7);
        checks.due("2: no kin at first", () -> x.ofSource(6, 0), 0);
    }

    private static void promise3() {
        Degreewall x = Offices.withSources(4);
        checks.due("3: kin(0, 1)", () -> x.kin(0, 1, true), 0);
        checks.due("3: kin of 0", () -> x.ofSource(0, 0), 2);
        checks.due("3: kin of 1", () -> x.ofSource(1, 0), 1);
        checks.due("3: again", () -> x.kin(1, 0, true), 0);
        checks.due("3: join(2, 3)", () -> x.join(2, 3), 10);
        checks.due("3: join(10, 0)", () -> x.join(10, 0), 11);
        checks.due("3: join(1, 3)", () -> x.join(1, 3), 12);
        checks.due("3: two tables are struck", () -> x.kin(3, 2, true), 2);
        checks.due("3: struck ones are not struck again", () -> x.kin(3, 2, true), 0);
        checks.due("3: no kin any more", () -> x.kin(2, 3, false), 0);
        checks.due("3: kin of 2", () -> x.ofSource(2, 0), 0);
        checks.due("3: kin of 3", () -> x.ofSource(3, 0), 0);
        checks.due("3: struck for good", () -> x.ofTable(10, 1), 1);
        checks.due("3: the other one is there", () -> x.ofTable(12, 1), 0);
        checks.due("3: not kin, and never were", () -> x.kin(2, 0, false), 0);
        for (int wrong : new int[] {-1, 4, 10, LOWEST, HIGHEST}) {
            checks.due("3: kin(wrong, 0)", () -> x.kin(wrong, 0, true), INDEX);
            checks.due("3: kin(0, wrong)", () -> x.kin(0, wrong, true), INDEX);
            checks.due("3: kin(wrong, wrong)", () -> x.kin(wrong, wrong, false), INDEX);
        }
        checks.due("3: kin(2, 2)", () -> x.kin(2, 2, true), ARGUMENT);
        checks.due("3: kin(2, 2, false)", () -> x.kin(2, 2, false), ARGUMENT);
    }

    private static void promise4() {
        Degreewall x = Offices.withLine(7);
        checks.due("4: join(0, 2)", () -> x.join(0, 2), 10);
        checks.due("4: join(0, 3)", () -> x.join(0, 3), 11);
        checks.due("4: join(0, 6)", () -> x.join(0, 6), 12);
        checks.due("4: join(5, 5)", () -> x.join(5, 5), 13);
        checks.due("4: bar(-1)", () -> x.bar(-1), ARGUMENT);
        checks.due("4: bar(6)", () -> x.bar(6), ARGUMENT);
        checks.due("4: bar(lowest)", () -> x.bar(LOWEST), ARGUMENT);
        checks.due("4: the bar is as it was", () -> x.house(3), 1);
        checks.due("4: bar(1)", () -> x.bar(1), 0);
        checks.due("4: bar(3)", () -> x.bar(3), 2);
        checks.due("4: bar(5)", () -> x.bar(5), 0);
        checks.due("4: degree 6 is not within 5", () -> x.ofTable(12, 1), 0);
        checks.due("4: degree 5 is", () -> x.wouldJoin(0, 5), 5);
        checks.due("4: bar(0)", () -> x.bar(0), 0);
        checks.due("4: the bar", () -> x.house(3), 0);
        checks.due("4: nobody is within 0", () -> x.join(0, 1), 14);
        checks.due("4: struck for good", () -> x.ofTable(10, 1), 1);
    }

    private static void promise5() {
        Degreewall x = Offices.withLine(4);
        checks.due("5: kin", () -> x.join(0, 1), STATE);
        checks.due("5: no kin", () -> x.join(0, 2), 10);
        checks.due("5: its line", () -> x.ofTable(10, 0), 5);
        checks.due("5: kin behind a table", () -> x.join(10, 1), STATE);
        checks.due("5: kin behind a table", () -> x.join(3, 10), STATE);
        checks.due("5: of one source", () -> x.join(3, 3), 11);
        checks.due("5: its line", () -> x.ofTable(11, 0), 8);
        checks.due("5: kin in two tables", () -> x.join(10, 11), STATE);
        checks.due("5: a table with itself", () -> x.join(10, 10), 12);
        checks.due("5: a refused join makes no table", () -> x.house(1), 3);
        checks.due("5: within by two steps", () -> x.bar(2), 2);
        checks.due("5: a struck table", () -> x.join(10, 0), INDEX);
        checks.due("5: a struck table", () -> x.join(0, 12), INDEX);
        checks.due("5: a struck table before kin", () -> x.join(12, 1), INDEX);
        checks.due("5: the third way is free", () -> x.join(0, 3), 13);
        for (int wrong : new int[] {-1, 4, 9, 14, 20, LOWEST, LOWEST + 10, HIGHEST}) {
            checks.due("5: join(wrong, 0)", () -> x.join(wrong, 0), INDEX);
            checks.due("5: join(0, wrong)", () -> x.join(0, wrong), INDEX);
        }
    }

    private static void promise5Limits() {
        Degreewall x = Offices.withLine(3);
        for (int k = 0; k < 10; k++) {
            int table = 10 + k;
            checks.due("5: join(0, 2)", () -> x.join(0, 2), table);
        }
        checks.due("5: the eleventh table", () -> x.join(0, 2), STATE);
        checks.due("5: kin, with 10 tables", () -> x.join(0, 1), STATE);
        checks.due("5: no such thing, with 10 tables", () -> x.join(0, 20), INDEX);
        checks.due("5: bar(2)", () -> x.bar(2), 10);
        checks.due("5: bar(0)", () -> x.bar(0), 0);
        checks.due("5: struck ones count too", () -> x.join(0, 2), STATE);
        checks.due("5: a struck one is no thing", () -> x.join(19, 2), INDEX);
    }

    private static void promise6() {
        Degreewall x = Offices.withSources(3);
        checks.due("6: permit(2, 0, 0)", () -> x.permit(2, 0, 0), 0);
        checks.due("6: its last day is today", () -> x.ofPermit(0, 2), 0);
        checks.due("6: in force on it", () -> x.ofPermit(0, 3), 1);
        x.pass(400);
        checks.due("6: permit(0, 2, 999)", () -> x.permit(0, 2, 999), 1);
        checks.due("6: its last day", () -> x.ofPermit(1, 2), 1399);
        checks.due("6: -1 days", () -> x.permit(0, 2, -1), ARGUMENT);
        checks.due("6: 1000 days", () -> x.permit(0, 2, 1000), ARGUMENT);
        checks.due("6: lowest days", () -> x.permit(0, 2, LOWEST), ARGUMENT);
        checks.due("6: the same source", () -> x.permit(1, 1, 5), ARGUMENT);
        for (int wrong : new int[] {-1, 3, 10, LOWEST, HIGHEST}) {
            checks.due("6: permit(wrong, 0, 5)", () -> x.permit(wrong, 0, 5), INDEX);
            checks.due("6: permit(0, wrong, -1)", () -> x.permit(0, wrong, -1), INDEX);
            checks.due("6: permit(wrong, wrong, 5)", () -> x.permit(wrong, wrong, 5), INDEX);
        }
        for (int k = 2; k < 8; k++) {
            checks.due("6: permit(0, 1, 3)", () -> x.permit(0, 1, 3), k);
        }
        x.revoke(2);
        checks.due("6: the ninth, though one is revoked and one ended", () -> x.permit(0, 1, 3), STATE);
        checks.due("6: wrong days before the ninth", () -> x.permit(0, 1, 1000), ARGUMENT);
        checks.due("6: wrong source before the ninth", () -> x.permit(0, 3, 3), INDEX);
        checks.due("6: a permit is no kinship", () -> x.degree(0, 2), -1);
    }

    private static void promise7() {
        Degreewall x = Offices.withSources(2);
        x.permit(0, 1, 10);
        x.permit(0, 1, 0);
        checks.due("7: revoke(0)", () -> x.revoke(0), true);
        checks.due("7: again", () -> x.revoke(0), false);
        checks.due("7: it is not in force", () -> x.ofPermit(0, 3), 0);
        checks.due("7: its last day stays", () -> x.ofPermit(0, 2), 10);
        checks.due("7: the other one is", () -> x.ofPermit(1, 3), 1);
        x.pass(1);
        checks.due("7: one that ended", () -> x.revoke(1), false);
        checks.due("7: the first one stays revoked", () -> x.ofPermit(0, 3), 0);
        for (int wrong : new int[] {-1, 2, 8, LOWEST, HIGHEST}) {
            checks.due("7: no such permit", () -> x.revoke(wrong), INDEX);
        }
    }

    private static void promise8() {
        Degreewall x = Offices.withSources(2);
        x.permit(0, 1, 3);
        x.permit(0, 1, 3);
        x.permit(0, 1, 4);
        x.permit(0, 1, 3);
        x.revoke(3);
        checks.due("8: pass(3)", () -> x.pass(3), 0);
        checks.due("8: today", () -> x.house(7), 3);
        checks.due("8: pass(1), but for the revoked one", () -> x.pass(1), 2);
        checks.due("8: pass(0)", () -> x.pass(0), ARGUMENT);
        checks.due("8: pass(-1)", () -> x.pass(-1), ARGUMENT);
        checks.due("8: pass(401)", () -> x.pass(401), ARGUMENT);
        checks.due("8: pass(highest)", () -> x.pass(HIGHEST), ARGUMENT);
        checks.due("8: today", () -> x.house(7), 4);
        checks.due("8: pass(400)", () -> x.pass(400), 1);
        for (int k = 0; k < 8; k++) {
            checks.due("8: pass(400)", () -> x.pass(400), 0);
        }
        checks.due("8: above 3650", () -> x.pass(47), STATE);
        checks.due("8: wrong days before that", () -> x.pass(401), ARGUMENT);
        checks.due("8: just 3650", () -> x.pass(46), 0);
        checks.due("8: today", () -> x.house(7), 3650);
        checks.due("8: no day more", () -> x.pass(1), STATE);
        checks.due("8: a permit may end behind the last day", () -> x.permit(0, 1, 999), 4);
        checks.due("8: its last day", () -> x.ofPermit(4, 2), 4649);
    }

    private static void promise9() {
        Degreewall x = new Degreewall();
        checks.due("9: person(-1)", () -> x.person(-1), ARGUMENT);
        checks.due("9: person(1000)", () -> x.person(1000), ARGUMENT);
        checks.due("9: person(lowest)", () -> x.person(LOWEST), ARGUMENT);
        checks.due("9: person(999)", () -> x.person(999), 0);
        for (int k = 1; k < 8; k++) {
            checks.due("9: person(0)", () -> x.person(0), k);
        }
        checks.due("9: the ninth", () -> x.person(5), STATE);
        checks.due("9: wrong value before that", () -> x.person(1000), ARGUMENT);
        checks.due("9: people", () -> x.house(8), 8);
    }

    private static void promise10() {
        Degreewall x = new Degreewall();
        for (int k = 0; k < 4; k++) {
            checks.due("10: asker()", x::asker, k);
        }
        checks.due("10: the fifth", x::asker, STATE);
        checks.due("10: askers", () -> x.house(9), 4);
    }

    private static void promise11() {
        Degreewall x = Offices.withPeople(6, 1);
        checks.due("11: least(5)", () -> x.least(5), 2);
        checks.due("11: least(0)", () -> x.least(0), ARGUMENT);
        checks.due("11: least(6)", () -> x.least(6), ARGUMENT);
        checks.due("11: least", () -> x.house(10), 5);
        checks.due("11: four are too few", () -> x.ask(0, 15), -1);
        checks.due("11: five are enough", () -> x.ask(0, 31), 31);
        checks.due("11: least(1)", () -> x.least(1), 5);
        checks.due("11: one alone is given away", () -> x.ask(0, 32), -1);
        checks.due("11: what was told stays told", () -> x.least(5), 1);
        checks.due("11: what was told stays told", () -> x.derived(0, 31), 31);
    }

    private static void promise12() {
        Degreewall x = Offices.withPeople(3, 2);
        checks.due("12: ask(0, 3)", () -> x.ask(0, 3), 3);
        checks.due("12: again", () -> x.ask(0, 3), 3);
        checks.due("12: fewer than least", () -> x.ask(0, 1), -1);
        checks.due("12: would give 2 away", () -> x.ask(0, 7), -1);
        checks.due("12: to somebody else it may be told", () -> x.ask(1, 7), 7);
        checks.due("12: told", () -> x.ofAsker(0, 2), 2);
        checks.due("12: refused", () -> x.ofAsker(0, 3), 2);
        checks.due("12: nobody", () -> x.ask(0, 0), ARGUMENT);
        checks.due("12: no such person", () -> x.ask(0, 8), ARGUMENT);
        checks.due("12: no such person", () -> x.ask(0, 11), ARGUMENT);
        checks.due("12: no set", () -> x.ask(0, -1), ARGUMENT);
        checks.due("12: no set", () -> x.ask(0, LOWEST), ARGUMENT);
        checks.due("12: no set", () -> x.ask(0, HIGHEST), ARGUMENT);
        checks.due("12: no such asker", () -> x.ask(2, 3), INDEX);
        checks.due("12: no such asker", () -> x.ask(-1, 3), INDEX);
        checks.due("12: no such asker before no set", () -> x.ask(2, 0), INDEX);
        checks.due("12: what is thrown is not refused", () -> x.house(12), 2);
        checks.due("12: a person who comes", () -> x.person(8), 3);
        checks.due("12: is in no sum told", () -> x.ask(0, 15), 15);
        checks.due("12: sums of nothing are told, too", () -> {
            Degreewall y = new Degreewall();
            y.person(0);
            y.person(0);
            y.asker();
            return y.ask(0, 3);
        }, 0);
    }

    private static void promise12WhatIsDerived() {
        Degreewall x = Offices.withPeople(4, 1);
        checks.due("12: 0+1", () -> x.ask(0, 3), 3);
        checks.due("12: 0+2", () -> x.ask(0, 5), 5);
        checks.due("12: 1+2 would give all three away, by halves", () -> x.ask(0, 6), -1);
        checks.due("12: 1+3", () -> x.ask(0, 10), 10);
        checks.due("12: 2+3 follows already", () -> x.ask(0, 12), 12);
        checks.due("12: 0+3 would give all away", () -> x.ask(0, 9), -1);

        Degreewall y = Offices.withPeople(7, 1);
        y.ask(0, 0b0000111);
        y.ask(0, 0b0011001);
        y.ask(0, 0b0101010);
        y.ask(0, 0b0110100);
        y.ask(0, 0b1100001);
        y.ask(0, 0b1010010);
        checks.due("12: the seventh row of a plane gives away by thirds", () -> y.ask(0, 0b1001100), -1);
        checks.due("12: all of them", () -> y.wouldGive(0, 0b1001100), 127);
        checks.due("12: six rows told", () -> y.ofAsker(0, 1), 6);
        checks.due("12: all seven follows not yet", () -> y.derived(0, 127), -1);
    }

    private static void promise13() {
        Degreewall x = Offices.withPeople(4, 4);
        x.ask(0, 3);
        x.ask(1, 7);
        x.ask(2, 12);
        checks.due("13: 2 would be given away", () -> x.talk(0, 1), false);
        checks.due("13: counted at the one", () -> x.ofAsker(0, 3), 1);
        checks.due("13: not at the other", () -> x.ofAsker(1, 3), 0);
        checks.due("13: counted in all", () -> x.house(12), 1);
        checks.due("13: nothing else changes", () -> x.ofAsker(0, 0), 1);
        checks.due("13: talk(0, 2)", () -> x.talk(0, 2), true);
        checks.due("13: again, the other way", () -> x.talk(2, 0), true);
        checks.due("13: talk(1, 3)", () -> x.talk(1, 3), true);
        checks.due("13: 3 is in the circle of 1, who heard too much for 0", () -> x.talk(3, 0), false);
        checks.due("13: counted at the one", () -> x.ofAsker(3, 3), 1);
        checks.due("13: what 2 heard counts for 0", () -> x.ask(0, 4), -1);
        checks.due("13: and gives away what was free before", () -> x.ask(0, 7), -1);
        checks.due("13: same", () -> x.talk(0, 0), ARGUMENT);
        checks.due("13: no such asker", () -> x.talk(0, 4), INDEX);
        checks.due("13: no such asker", () -> x.talk(-1, 0), INDEX);
        checks.due("13: no such asker, twice", () -> x.talk(4, 4), INDEX);
        checks.due("13: lowest", () -> x.talk(LOWEST, HIGHEST), INDEX);
        Degreewall y = Offices.withPeople(2, 4);
        checks.due("13: a row of talks", () -> y.talk(3, 2) && y.talk(2, 1) && y.talk(1, 0), true);
        checks.due("13: one circle", () -> y.ofAsker(3, 0), 15);
        checks.due("13: two in a circle already", () -> y.talk(0, 3), true);
    }

    private static void promise14() {
        Degreewall x = Offices.withLine(7);
        checks.due("14: itself", () -> x.degree(3, 3), 0);
        checks.due("14: degree(0, 6)", () -> x.degree(0, 6), 6);
        checks.due("14: degree(6, 0)", () -> x.degree(6, 0), 6);
        x.kin(1, 5, true);
        checks.due("14: the shorter way", () -> x.degree(0, 6), 3);
        x.kin(5, 6, false);
        checks.due("14: no way", () -> x.degree(0, 6), -1);
        for (int wrong : new int[] {-1, 7, LOWEST, HIGHEST}) {
            checks.due("14: degree(wrong, 0)", () -> x.degree(wrong, 0), INDEX);
            checks.due("14: degree(0, wrong)", () -> x.degree(0, wrong), INDEX);
            checks.due("14: degree(wrong, wrong)", () -> x.degree(wrong, wrong), INDEX);
        }
        checks.due("14: seven only when there are seven", () -> Offices.withSources(3).degree(3, 3), INDEX);
    }

    private static void promise15() {
        Degreewall x = Offices.withLine(5);
        checks.due("15: kin", () -> x.ofSource(1, 0), 0b101);
        checks.due("15: within 1", () -> x.ofSource(1, 1), 0b101);
        x.bar(2);
        checks.due("15: within 2", () -> x.ofSource(1, 1), 0b1101);
        checks.due("15: kin does not change", () -> x.ofSource(1, 0), 0b101);
        x.bar(0);
        checks.due("15: within 0", () -> x.ofSource(1, 1), 0);
        checks.due("15: no chain", () -> x.ofSource(0, 2), 0);
        x.permit(0, 2, 5);
        x.permit(4, 2, 3);
        checks.due("15: a chain", () -> x.ofSource(0, 2), 0b10100);
        x.pass(4);
        checks.due("15: an ended permit is of no chain", () -> x.ofSource(0, 2), 0b100);
        x.join(0, 3);
        x.join(0, 2);
        x.join(10, 11);
        checks.due("15: in three lines", () -> x.ofSource(0, 3), 3);
        checks.due("15: in two lines", () -> x.ofSource(3, 3), 2);
        checks.due("15: in none", () -> x.ofSource(4, 3), 0);
        x.bar(1);
        checks.due("15: struck ones do not count", () -> x.ofSource(0, 3), 2);
        checks.due("15: -1", () -> x.ofSource(0, -1), ARGUMENT);
        checks.due("15: 4", () -> x.ofSource(0, 4), ARGUMENT);
        checks.due("15: no such source", () -> x.ofSource(5, 0), INDEX);
        checks.due("15: no such source", () -> x.ofSource(-1, 0), INDEX);
        checks.due("15: no such source before 4", () -> x.ofSource(10, 4), INDEX);
    }

    private static void promise16() {
        Degreewall x = Offices.withSources(3);
        x.join(0, 1);
        x.join(10, 2);
        checks.due("16: line", () -> x.ofTable(11, 0), 7);
        checks.due("16: not struck", () -> x.ofTable(11, 1), 0);
        x.kin(1, 2, true);
        checks.due("16: line of a struck one", () -> x.ofTable(11, 0), 7);
        checks.due("16: struck", () -> x.ofTable(11, 1), 1);
        checks.due("16: one of its things is there", () -> x.ofTable(10, 1), 0);
        checks.due("16: -1", () -> x.ofTable(10, -1), ARGUMENT);
        checks.due("16: 2", () -> x.ofTable(10, 2), ARGUMENT);
        for (int wrong : new int[] {-1, 0, 1, 9, 12, 20, LOWEST, LOWEST + 10, HIGHEST}) {
            checks.due("16: no such table", () -> x.ofTable(wrong, 0), INDEX);
            checks.due("16: no such table before 2", () -> x.ofTable(wrong, 2), INDEX);
        }
    }

    private static void promise17() {
        Degreewall x = Offices.withSources(4);
        x.pass(7);
        x.permit(3, 1, 2);
        checks.due("17: smaller", () -> x.ofPermit(0, 0), 1);
        checks.due("17: greater", () -> x.ofPermit(0, 1), 3);
        checks.due("17: last day", () -> x.ofPermit(0, 2), 9);
        checks.due("17: in force", () -> x.ofPermit(0, 3), 1);
        checks.due("17: not of the repair", () -> x.ofPermit(0, 4), 0);
        x.kin(3, 1, true);
        checks.due("17: of the repair", () -> x.ofPermit(0, 4), 1);
        x.pass(2);
        checks.due("17: on its last day", () -> x.ofPermit(0, 3), 1);
        checks.due("17: of the repair", () -> x.ofPermit(0, 4), 1);
        x.pass(1);
        checks.due("17: behind it", () -> x.ofPermit(0, 3), 0);
        checks.due("17: not of the repair", () -> x.ofPermit(0, 4), 0);
        checks.due("17: -1", () -> x.ofPermit(0, -1), ARGUMENT);
        checks.due("17: 5", () -> x.ofPermit(0, 5), ARGUMENT);
        for (int wrong : new int[] {-1, 1, 8, LOWEST, HIGHEST}) {
            checks.due("17: no such permit", () -> x.ofPermit(wrong, 0), INDEX);
            checks.due("17: no such permit before 5", () -> x.ofPermit(wrong, 5), INDEX);
        }
    }

    private static void promise17Repair() {
        Degreewall x = Offices.withSources(5);
        x.permit(0, 1, 9);
        x.permit(1, 2, 9);
        x.permit(1, 3, 9);
        x.permit(1, 4, 9);
        x.kin(0, 2, true);
        checks.due("17: of two the first one", () -> x.house(6), 0b0001);
        x.kin(3, 4, true);
        checks.due("17: of four the first ones", () -> x.house(6), 0b0101);
        x.kin(3, 4, false);
        x.kin(0, 2, false);
        x.kin(0, 3, true);
        x.kin(2, 3, true);
        checks.due("17: two leaks at 3", () -> x.house(5), 2);
        checks.due("17: the fewest, though others are first", () -> x.house(6), 0b0100);
        x.kin(0, 3, false);
        x.kin(0, 2, true);
        x.kin(3, 4, true);
        x.kin(0, 4, true);
        checks.due("17: four leaks in a ring round the hub", () -> x.house(5), 4);
        checks.due("17: two opposite ones, the first such two", () -> x.house(6), 0b0101);
        x.revoke(1);
        checks.due("17: a revoked one is of no repair", () -> x.house(6), 0b1000);
        x.permit(0, 4, 9);
        checks.due("17: a way beside the hub needs one more", () -> x.house(6), 0b11000);
        x.bar(0);
        checks.due("17: no bar, no leak", () -> x.house(6), 0);
    }

    private static void promise18() {
        Degreewall x = Offices.withPeople(5, 3);
        checks.due("18: a circle of one", () -> x.ofAsker(1, 0), 2);
        checks.due("18: rank 0", () -> x.ofAsker(1, 1), 0);
        x.ask(0, 3);
        x.ask(0, 12);
        x.ask(0, 15);
        x.ask(1, 31);
        checks.due("18: 15 follows", () -> x.ofAsker(0, 1), 2);
        checks.due("18: told", () -> x.ofAsker(0, 2), 3);
        x.ask(1, 15);
        checks.due("18: refused", () -> x.ofAsker(1, 3), 1);
        x.ask(2, 3);
        checks.due("18: talk", () -> x.talk(2, 0), true);
        checks.due("18: circle of 0", () -> x.ofAsker(0, 0), 5);
        checks.due("18: circle of 2", () -> x.ofAsker(2, 0), 5);
        checks.due("18: rank of the circle", () -> x.ofAsker(2, 1), 2);
        checks.due("18: told to it alone", () -> x.ofAsker(2, 2), 1);
        checks.due("18: not allowed", () -> x.talk(1, 2), false);
        checks.due("18: refused to the one", () -> x.ofAsker(1, 3), 2);
        checks.due("18: not to the other", () -> x.ofAsker(2, 3), 0);
        checks.due("18: -1", () -> x.ofAsker(0, -1), ARGUMENT);
        checks.due("18: 4", () -> x.ofAsker(0, 4), ARGUMENT);
        for (int wrong : new int[] {-1, 3, 4, LOWEST, HIGHEST}) {
            checks.due("18: no such asker", () -> x.ofAsker(wrong, 0), INDEX);
            checks.due("18: no such asker before 4", () -> x.ofAsker(wrong, 4), INDEX);
        }
    }

    private static void promise19() {
        Degreewall x = Offices.withPeople(4, 2);
        checks.due("19: nobody", () -> x.derived(0, 0), 0);
        checks.due("19: nothing told", () -> x.derived(0, 3), -1);
        x.ask(0, 3);
        x.ask(0, 6);
        x.ask(0, 12);
        checks.due("19: told", () -> x.derived(0, 6), 6);
        checks.due("19: 0+1 - 1+2 + 2+3", () -> x.derived(0, 9), 9);
        checks.due("19: 0+1 and 2+3", () -> x.derived(0, 15), 15);
        checks.due("19: 0+2 not", () -> x.derived(0, 5), -1);
        checks.due("19: one alone not", () -> x.derived(0, 1), -1);
        checks.due("19: another asker", () -> x.derived(1, 3), -1);
        x.talk(0, 1);
        checks.due("19: who talks with it", () -> x.derived(1, 9), 9);
        checks.due("19: no such person", () -> x.derived(0, 16), ARGUMENT);
        checks.due("19: no set", () -> x.derived(0, -1), ARGUMENT);
        checks.due("19: no set", () -> x.derived(0, LOWEST), ARGUMENT);
        checks.due("19: no such asker", () -> x.derived(2, 3), INDEX);
        checks.due("19: no such asker before no set", () -> x.derived(-1, -1), INDEX);
        Degreewall z = Offices.withPeople(3, 2);
        z.ask(0, 3);
        z.ask(1, 3);
        checks.due("19: told to two, the first of them", () -> z.derived(0, 3), 3);
        checks.due("19: told to two, the second of them", () -> z.derived(1, 3), 3);
        Degreewall y = Offices.withPeople(6, 1);
        y.ask(0, 0b001111);
        y.ask(0, 0b111100);
        y.ask(0, 0b110011);
        checks.due("19: a half of the first, less a half of the second, and a half of the third",
                () -> y.derived(0, 0b000011), 3);
        checks.due("19: all by halves", () -> y.derived(0, 0b111111), 63);
        checks.due("19: 0 and 2 not", () -> y.derived(0, 0b000101), -1);
    }

    private static void promise20() {
        Degreewall x = Offices.withLine(5);
        x.join(0, 2);
        x.join(0, 3);
        x.join(0, 4);
        x.bar(2);
        x.permit(0, 1, 5);
        x.permit(1, 2, 5);
        x.permit(3, 4, 1);
        x.permit(3, 4, 9);
        x.revoke(3);
        x.pass(2);
        x.person(7);
        x.person(8);
        x.person(9);
        x.asker();
        x.asker();
        x.least(1);
        x.ask(0, 3);
        x.ask(0, 3);
        x.ask(1, 7);
        x.ask(1, 4);
        x.talk(1, 0);
        x.knock();
        checks.due("20: house", () -> Offices.houseOf(x), "5 2 1 2 2 3 3 2 3 2 1 3 2 1");
        checks.due("20: 14", () -> x.house(14), ARGUMENT);
        checks.due("20: -1", () -> x.house(-1), ARGUMENT);
        checks.due("20: lowest", () -> x.house(LOWEST), ARGUMENT);
    }

    private static void promise21() {
        Degreewall x = Offices.withLine(7);
        checks.due("21: row(0)", () -> x.row(0), "0123456");
        checks.due("21: row(4)", () -> x.row(4), "4321012");
        x.kin(2, 3, false);
        checks.due("21: row(5)", () -> x.row(5), "---2101");
        checks.due("21: no such source", () -> x.row(7), INDEX);
        checks.due("21: no such source", () -> x.row(-1), INDEX);
        checks.due("21: only those that there are", () -> Offices.withSources(2).row(1), "-0");
        checks.due("21: no source", () -> new Degreewall().row(0), INDEX);
    }

    private static void promise22() {
        Degreewall x = Offices.withLine(6);
        checks.due("22: free", () -> x.wouldJoin(0, 2), -1);
        checks.due("22: itself", () -> x.wouldJoin(4, 4), -1);
        checks.due("22: the greater one first", () -> x.wouldJoin(5, 4), 45);
        x.join(0, 3);
        x.join(5, 10);
        checks.due("22: of 23, 34, 45 none yet", () -> x.wouldJoin(10, 11), -1);
        checks.due("22: of 34 and 45 the smallest", () -> x.wouldJoin(4, 11), 34);
        checks.due("22: no table is made", () -> x.house(1), 2);
        x.bar(2);
        checks.due("22: 3 and 5 struck it", () -> x.wouldJoin(11, 0), INDEX);
        checks.due("22: by two steps", () -> x.wouldJoin(10, 2), 2);
        for (int wrong : new int[] {-1, 6, 9, 12, LOWEST, HIGHEST}) {
            checks.due("22: no such thing", () -> x.wouldJoin(wrong, 0), INDEX);
            checks.due("22: no such thing", () -> x.wouldJoin(0, wrong), INDEX);
        }
        Degreewall y = Offices.withLine(3);
        for (int k = 0; k < 10; k++) {
            y.join(0, 0);
        }
        checks.due("22: 10 tables are no pair", () -> y.wouldJoin(0, 2), -1);
        checks.due("22: 10 tables and a pair", () -> y.wouldJoin(10, 1), 1);
    }

    private static void promise23() {
        Degreewall x = Offices.withPeople(4, 2);
        x.ask(0, 3);
        checks.due("23: the third", () -> x.wouldGive(0, 7), 4);
        checks.due("23: two at once", () -> x.wouldGive(0, 1), 3);
        checks.due("23: nobody", () -> x.wouldGive(0, 12), 0);
        checks.due("23: one alone", () -> x.wouldGive(1, 8), 8);
        x.least(5);
        checks.due("23: whatever least is", () -> x.wouldGive(0, 12), 0);
        checks.due("23: nothing is told", () -> x.house(11), 1);
        checks.due("23: nothing is refused", () -> x.house(12), 0);
        x.talk(0, 1);
        checks.due("23: to the circle", () -> x.wouldGive(1, 7), 4);
        checks.due("23: empty", () -> x.wouldGive(0, 0), ARGUMENT);
        checks.due("23: no such person", () -> x.wouldGive(0, 16), ARGUMENT);
        checks.due("23: no set", () -> x.wouldGive(0, -8), ARGUMENT);
        checks.due("23: no such asker", () -> x.wouldGive(2, 0), INDEX);
        checks.due("23: no such asker", () -> x.wouldGive(LOWEST, 1), INDEX);
    }

    private static void promise24() {
        Degreewall x = Offices.withPeople(4, 4);
        x.ask(0, 3);
        x.ask(1, 7);
        x.ask(2, 11);
        checks.due("24: the third", () -> x.wouldTalk(0, 1), 4);
        checks.due("24: the other way", () -> x.wouldTalk(1, 0), 4);
        checks.due("24: nobody", () -> x.wouldTalk(1, 2), 0);
        checks.due("24: itself", () -> x.wouldTalk(1, 1), 0);
        x.talk(1, 2);
        checks.due("24: both circles", () -> x.wouldTalk(0, 1), 12);
        x.talk(3, 0);
        checks.due("24: both circles", () -> x.wouldTalk(2, 3), 12);
        checks.due("24: nothing is refused", () -> x.house(12), 0);
        checks.due("24: nobody talks by it", () -> x.ofAsker(0, 0), 9);
        for (int wrong : new int[] {-1, 4, LOWEST, HIGHEST}) {
            checks.due("24: no such asker", () -> x.wouldTalk(wrong, 0), INDEX);
            checks.due("24: no such asker", () -> x.wouldTalk(0, wrong), INDEX);
            checks.due("24: no such asker", () -> x.wouldTalk(wrong, wrong), INDEX);
        }
    }

    private static void promise25() {
        Degreewall x = Offices.withSources(7);
        for (int k = 0; k < 6; k++) {
            x.permit(k + 1, k, k == 3 ? 1 : 9);
        }
        checks.due("25: itself", () -> x.chain(2, 2), 0);
        checks.due("25: six permits", () -> x.chain(0, 6), 6);
        checks.due("25: the other way", () -> x.chain(6, 0), 6);
        x.permit(1, 5, 1);
        checks.due("25: the fewest", () -> x.chain(0, 6), 3);
        x.revoke(6);
        checks.due("25: revoked", () -> x.chain(0, 6), 6);
        x.pass(2);
        checks.due("25: ended", () -> x.chain(0, 6), -1);
        checks.due("25: the rest", () -> x.chain(6, 4), 2);
        Degreewall y = Offices.withSources(4);
        y.kin(0, 1, true);
        y.permit(0, 1, 9);
        y.permit(2, 3, 9);
        y.permit(1, 2, 9);
        checks.due("25: permits of the repair are in the chain, too", () -> y.chain(0, 3), 3);
        y.pass(1);
        checks.due("25: a chain leads to them", () -> y.ofSource(3, 2), 7);
        checks.due("25: kin are no chain", () -> {
            x.kin(0, 6, true);
            return x.chain(0, 6);
        }, -1);
        for (int wrong : new int[] {-1, 7, LOWEST, HIGHEST}) {
            checks.due("25: no such source", () -> x.chain(wrong, 0), INDEX);
            checks.due("25: no such source", () -> x.chain(0, wrong), INDEX);
            checks.due("25: no such source", () -> x.chain(wrong, wrong), INDEX);
        }
    }

    private static void promise26() {
        Degreewall x = Offices.withLine(4);
        x.join(0, 2);
        x.permit(0, 1, 9);
        x.permit(1, 3, 9);
        checks.due("26: sound with a leak, since there is a repair", x::isSound, true);
        x.bar(3);
        checks.due("26: sound with a struck table", x::isSound, true);
        x.person(1);
        x.person(2);
        x.person(3);
        x.asker();
        x.asker();
        x.least(1);
        x.ask(0, 3);
        x.ask(0, 1);
        x.ask(1, 7);
        x.talk(0, 1);
        checks.due("26: sound with refusals", x::isSound, true);
        x.revoke(0);
        x.pass(400);
        checks.due("26: sound after all that", x::isSound, true);
    }

    private static void promise27() {
        Degreewall x = new Degreewall();
        checks.due("27: knock()", x::knock, 1);
        checks.due("27: knock()", x::knock, 2);
        checks.due("27: counted at the door", () -> x.house(13), 2);
        checks.due("27: not with the sums", () -> x.house(12), 0);
    }

    private static long mixed(long d, int... numbers) {
        for (int number : numbers) {
            d = d * 31 + number;
        }
        return d;
    }

    private static void promise28() {
        long empty = mixed(8839, 0, 0, 0, 1, 0, 0, 0, 0, 0, 0, 2, 0, 0, 0, 1);
        checks.due("28: a new one", () -> new Degreewall().digest(), empty);
        Degreewall x = Offices.withLine(3);
        x.join(0, 2);
        x.join(1, 1);
        x.permit(2, 0, 4);
        x.pass(1);
        x.bar(2);
        x.person(5);
        x.person(6);
        x.asker();
        x.asker();
        x.ask(0, 3);
        x.ask(1, 1);
        x.knock();
        long d = mixed(8839, 3, 1, 1, 2, 1, 1, 1, 1, 2, 2, 2, 1, 1, 1);
        d = mixed(d, 2, 6, 4, 0, 5, 5, 0, 1, 2, 3, 1, 0);
        d = mixed(d, 5, 1, 2, 0);
        d = mixed(d, 0, 2, 4, 1, 1);
        d = mixed(d, 1, 1, 1, 0, 11, 2, 0, 0, 1, -1);
        checks.due("28: with something of each", x::digest, mixed(d, 1));
    }
}
