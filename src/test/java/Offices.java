/** Offices with which the tests begin. */
final class Offices {
    /** How many calls full() makes; an office is used for 512 at most. */
    static final int CALLS_TO_FULL = 75;

    private Offices() {
    }

    static Degreewall withSources(int count) {
        Degreewall office = new Degreewall();
        for (int k = 0; k < count; k++) {
            office.source();
        }
        return office;
    }

    /** Sources in a row, each kin of the next. */
    static Degreewall withLine(int count) {
        Degreewall office = withSources(count);
        for (int k = 1; k < count; k++) {
            office.kin(k - 1, k, true);
        }
        return office;
    }

    /** So many tables, each of source 0 and another one that is two steps away, with the bar at 1. */
    static Degreewall withTables(int count) {
        Degreewall office = withLine(7);
        for (int k = 0; k < count; k++) {
            office.join(0, 2);
        }
        return office;
    }

    /** So many permits of sources 0 and 1, for as many days. */
    static Degreewall withPermits(int count, int days) {
        Degreewall office = withSources(7);
        for (int k = 0; k < count; k++) {
            office.permit(0, 1, days);
        }
        return office;
    }

    static Degreewall withToday(int today) {
        Degreewall office = withSources(2);
        goTo(office, today);
        return office;
    }

    static void goTo(Degreewall office, int today) {
        for (int left = today - office.house(7); left > 0; left = today - office.house(7)) {
            office.pass(Math.min(left, 400));
        }
    }

    /** People of the values 1, 2, 4 and so on, so that each set has a sum of its own: its number. */
    static Degreewall withPeople(int people, int askers) {
        Degreewall office = new Degreewall();
        for (int k = 0; k < people; k++) {
            office.person(1 << k);
        }
        for (int k = 0; k < askers; k++) {
            office.asker();
        }
        return office;
    }

    /** Something of each kind, and room for more of each. */
    static Degreewall some() {
        Degreewall office = withLine(4);
        office.join(0, 2);
        office.join(0, 3);
        office.bar(2);
        office.permit(0, 1, 30);
        office.permit(1, 3, 0);
        office.permit(3, 2, 30);
        office.permit(1, 3, 30);
        office.pass(1);
        office.revoke(2);
        for (int k = 0; k < 4; k++) {
            office.person(1 << k);
        }
        for (int k = 0; k < 3; k++) {
            office.asker();
        }
        office.ask(0, 3);
        office.ask(1, 7);
        office.ask(0, 1);
        office.knock();
        return office;
    }

    /** All that an office can hold, on the last day. */
    static Degreewall full() {
        Degreewall office = withLine(7);
        for (int k = 0; k < 10; k++) {
            office.join(0, k % 2 == 0 ? 2 : 4);
        }
        office.bar(2);
        office.permit(0, 6, 999);
        office.permit(5, 6, 0);
        goTo(office, 3600);
        for (int k = 0; k < 6; k++) {
            office.permit(k, k + 1, 50 + k);
        }
        office.revoke(6);
        goTo(office, 3650);
        for (int k = 0; k < 8; k++) {
            office.person(1 << k);
        }
        for (int k = 0; k < 4; k++) {
            office.asker();
        }
        office.ask(0, 7);
        office.ask(1, 15);
        office.ask(2, 248);
        office.talk(1, 2);
        office.talk(3, 0);
        office.least(3);
        office.ask(3, 3);
        office.knock();
        return office;
    }

    static String houseOf(Degreewall office) {
        StringBuilder text = new StringBuilder();
        for (int what = 0; what <= 13; what++) {
            text.append(office.house(what)).append(' ');
        }
        return text.toString().trim();
    }
}
