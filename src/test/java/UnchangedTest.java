import java.util.ArrayList;
import java.util.LinkedHashMap;
import java.util.List;
import java.util.Map;
import java.util.function.Function;
import java.util.function.Supplier;

/**
 * A method that throws an exception changes nothing, and what is asked changes nothing: not in what can be asked, nor
 * in what later calls answer. Two offices are made alike, the call is made in one of them alone, and both are compared.
 */
public final class UnchangedTest {
    private static final String INDEX = Checks.INDEX;
    private static final String ARGUMENT = Checks.ARGUMENT;
    private static final String STATE = Checks.STATE;
    private static final List<Supplier<Degreewall>> STARTS = List.of(Degreewall::new, Offices::some, Offices::full);
    private static final Checks checks = new Checks();

    private record Call(String text, Function<Degreewall, Object> made) {
        String answer(Degreewall office) {
            return Checks.answerOf(() -> made.apply(office));
        }
    }

    public static void main(String[] args) {
        inANewOfficeEachNumberIsWrong();
        inSomeOfEachThereIsTheNextNumber();
        inAFullOfficeThereIsNoMore();
        onBothSidesOfEachRange();
        whatIsAsked();
        knockCountsAlone();
        refusalsCountAlone();
        checks.end();
    }

    private static void inANewOfficeEachNumberIsWrong() {
        Supplier<Degreewall> start = Degreewall::new;
        thrown(start, INDEX, "3: kin(0, 1, true)", x -> x.kin(0, 1, true));
        thrown(start, INDEX, "5: join(0, 0)", x -> x.join(0, 0));
        thrown(start, INDEX, "5: join(10, 10)", x -> x.join(10, 10));
        thrown(start, INDEX, "6: permit(0, 1, 5)", x -> x.permit(0, 1, 5));
        thrown(start, INDEX, "7: revoke(0)", x -> x.revoke(0));
        thrown(start, INDEX, "12: ask(0, 1)", x -> x.ask(0, 1));
        thrown(start, INDEX, "13: talk(0, 1)", x -> x.talk(0, 1));
        thrown(start, INDEX, "14: degree(0, 0)", x -> x.degree(0, 0));
        thrown(start, INDEX, "15: ofSource(0, 0)", x -> x.ofSource(0, 0));
        thrown(start, INDEX, "16: ofTable(10, 0)", x -> x.ofTable(10, 0));
        thrown(start, INDEX, "17: ofPermit(0, 0)", x -> x.ofPermit(0, 0));
        thrown(start, INDEX, "18: ofAsker(0, 0)", x -> x.ofAsker(0, 0));
        thrown(start, INDEX, "19: derived(0, 0)", x -> x.derived(0, 0));
        thrown(start, INDEX, "21: row(0)", x -> x.row(0));
        thrown(start, INDEX, "22: wouldJoin(0, 0)", x -> x.wouldJoin(0, 0));
        thrown(start, INDEX, "23: wouldGive(0, 1)", x -> x.wouldGive(0, 1));
        thrown(start, INDEX, "24: wouldTalk(0, 0)", x -> x.wouldTalk(0, 0));
        thrown(start, INDEX, "25: chain(0, 0)", x -> x.chain(0, 0));
    }

    private static void inSomeOfEachThereIsTheNextNumber() {
        Supplier<Degreewall> start = Offices::some;
        thrown(start, INDEX, "3: kin(4, 0, true)", x -> x.kin(4, 0, true));
        thrown(start, INDEX, "3: kin(0, 4, false)", x -> x.kin(0, 4, false));
        thrown(start, ARGUMENT, "3: kin(3, 3, true)", x -> x.kin(3, 3, true));
        thrown(start, INDEX, "5: join(4, 0)", x -> x.join(4, 0));
        thrown(start, INDEX, "5: join(0, 12)", x -> x.join(0, 12));
        thrown(start, INDEX, "5: join of a struck one", x -> x.join(10, 1));
        thrown(start, STATE, "5: join within the bar", x -> x.join(0, 2));
        thrown(start, STATE, "5: join of a table within the bar", x -> x.join(1, 11));
        thrown(start, INDEX, "6: permit(4, 4, 1000)", x -> x.permit(4, 4, 1000));
        thrown(start, ARGUMENT, "6: permit(0, 0, 5)", x -> x.permit(0, 0, 5));
        thrown(start, ARGUMENT, "6: permit(0, 3, 1000)", x -> x.permit(0, 3, 1000));
        thrown(start, INDEX, "7: revoke(4)", x -> x.revoke(4));
        thrown(start, INDEX, "12: ask(3, 3)", x -> x.ask(3, 3));
        thrown(start, ARGUMENT, "12: ask(2, 16)", x -> x.ask(2, 16));
        thrown(start, ARGUMENT, "12: ask(2, 19)", x -> x.ask(2, 19));
        thrown(start, ARGUMENT, "12: ask(2, 0)", x -> x.ask(2, 0));
        thrown(start, INDEX, "13: talk(2, 3)", x -> x.talk(2, 3));
        thrown(start, ARGUMENT, "13: talk(2, 2)", x -> x.talk(2, 2));
        thrown(start, ARGUMENT, "23: wouldGive(2, 0)", x -> x.wouldGive(2, 0));
        thrown(start, ARGUMENT, "23: wouldGive(2, 16)", x -> x.wouldGive(2, 16));
    }

    private static void inAFullOfficeThereIsNoMore() {
        Supplier<Degreewall> start = Offices::full;
        thrown(start, STATE, "2: source()", Degreewall::source);
        thrown(start, INDEX, "3: kin(7, 7, true)", x -> x.kin(7, 7, true));
        thrown(start, ARGUMENT, "3: kin(6, 6, true)", x -> x.kin(6, 6, true));
        thrown(start, STATE, "5: join(0, 6)", x -> x.join(0, 6));
        thrown(start, STATE, "5: join within the bar", x -> x.join(0, 1));
        thrown(start, STATE, "5: join of tables", x -> x.join(11, 13));
        thrown(start, INDEX, "5: join of a struck one", x -> x.join(10, 6));
        thrown(start, INDEX, "5: join(20, 0)", x -> x.join(20, 0));
        thrown(start, STATE, "6: permit(0, 6, 0)", x -> x.permit(0, 6, 0));
        thrown(start, ARGUMENT, "6: permit(6, 6, 0)", x -> x.permit(6, 6, 0));
        thrown(start, INDEX, "6: permit(0, 7, 0)", x -> x.permit(0, 7, 0));
        thrown(start, INDEX, "7: revoke(8)", x -> x.revoke(8));
        thrown(start, STATE, "8: pass(1)", x -> x.pass(1));
        thrown(start, STATE, "8: pass(400)", x -> x.pass(400));
        thrown(start, STATE, "9: person(0)", x -> x.person(0));
        thrown(start, STATE, "10: asker()", Degreewall::asker);
        thrown(start, INDEX, "12: ask(4, 3)", x -> x.ask(4, 3));
        thrown(start, ARGUMENT, "12: ask(0, 256)", x -> x.ask(0, 256));
        thrown(start, INDEX, "13: talk(0, 4)", x -> x.talk(0, 4));
        thrown(start, ARGUMENT, "13: talk(1, 1)", x -> x.talk(1, 1));
        thrown(start, INDEX, "14: degree(0, 7)", x -> x.degree(0, 7));
        thrown(start, INDEX, "16: ofTable(20, 0)", x -> x.ofTable(20, 0));
        thrown(start, INDEX, "19: derived(4, 0)", x -> x.derived(4, 0));
        thrown(start, ARGUMENT, "19: derived(0, 256)", x -> x.derived(0, 256));
        thrown(start, INDEX, "21: row(7)", x -> x.row(7));
        thrown(start, INDEX, "22: wouldJoin of a struck one", x -> x.wouldJoin(0, 10));
        thrown(start, INDEX, "23: wouldGive(4, 3)", x -> x.wouldGive(4, 3));
        thrown(start, INDEX, "24: wouldTalk(4, 4)", x -> x.wouldTalk(4, 4));
        thrown(start, INDEX, "25: chain(7, 0)", x -> x.chain(7, 0));
    }

    private static void onBothSidesOfEachRange() {
        for (Supplier<Degreewall> start : STARTS) {
            thrown(start, ARGUMENT, "4: bar(-1)", x -> x.bar(-1));
            thrown(start, ARGUMENT, "4: bar(6)", x -> x.bar(6));
            thrown(start, ARGUMENT, "8: pass(0)", x -> x.pass(0));
            thrown(start, ARGUMENT, "8: pass(401)", x -> x.pass(401));
            thrown(start, ARGUMENT, "9: person(-1)", x -> x.person(-1));
            thrown(start, ARGUMENT, "9: person(1000)", x -> x.person(1000));
            thrown(start, ARGUMENT, "11: least(0)", x -> x.least(0));
            thrown(start, ARGUMENT, "11: least(6)", x -> x.least(6));
            thrown(start, ARGUMENT, "20: house(-1)", x -> x.house(-1));
            thrown(start, ARGUMENT, "20: house(14)", x -> x.house(14));
        }
        for (Supplier<Degreewall> start : STARTS.subList(1, 3)) {
            thrown(start, ARGUMENT, "15: ofSource(0, 4)", x -> x.ofSource(0, 4));
            thrown(start, ARGUMENT, "16: ofTable(10, 2)", x -> x.ofTable(10, 2));
            thrown(start, ARGUMENT, "17: ofPermit(0, 5)", x -> x.ofPermit(0, 5));
            thrown(start, ARGUMENT, "18: ofAsker(0, 4)", x -> x.ofAsker(0, 4));
            thrown(start, ARGUMENT, "19: derived(0, -1)", x -> x.derived(0, -1));
            thrown(start, ARGUMENT, "23: wouldGive(0, 0)", x -> x.wouldGive(0, 0));
        }
    }

    private static void whatIsAsked() {
        for (Supplier<Degreewall> start : STARTS.subList(1, 3)) {
            for (List<Call> part : parts()) {
                // Of the many sets of people every fifth is enough.
                int step = part.size() > 300 ? 5 : 1;
                for (int k = 0; k < part.size(); k += step) {
                    same(start, part.get(k), "asked");
                }
            }
        }
        for (Call call : parts().get(0)) {
            same(Degreewall::new, call, "asked");
        }
    }

    private static void knockCountsAlone() {
        for (Supplier<Degreewall> start : STARTS) {
            differs(start, "27: knock()", Degreewall::knock, List.of("house(13)", "digest()"));
        }
    }

    private static void refusalsCountAlone() {
        List<String> at0 = List.of("house(12)", "ofAsker(0, 3)", "digest()");
        List<String> at1 = List.of("house(12)", "ofAsker(1, 3)", "digest()");
        Supplier<Degreewall> start = Offices::some;
        differs(start, "12: fewer people than least", x -> x.ask(1, 8), at1);
        differs(start, "12: somebody would be given away", x -> x.ask(0, 7), at0);
        differs(start, "13: somebody would be given away", x -> x.talk(0, 1), at0);
        differs(start, "13: the other one is the one", x -> x.talk(1, 0), at1);
        differs(Offices::full, "12: somebody would be given away", x -> x.ask(0, 15), at0);
        differs(Offices::full, "13: they talk already", x -> x.talk(0, 3), List.of());
        differs(Offices::full, "7: it ended long ago", x -> x.revoke(0), List.of());
        differs(start, "11: least", x -> x.least(5), List.of("house(10)", "digest()"));
    }

    private static void thrown(Supplier<Degreewall> start, String due, String text, Function<Degreewall, Object> made) {
        Call call = new Call(text, made);
        checks.same(text, call.answer(start.get()), due);
        same(start, call, "thrown");
    }

    private static void same(Supplier<Degreewall> start, Call call, String how) {
        checks.same(call.text + " was " + how + ", changed by it", changed(start, call).toString(), "[]");
        checks.same(call.text + " was " + how + ", later calls", later(start, call), later(start, null));
    }

    private static void differs(Supplier<Degreewall> start, String text, Function<Degreewall, Object> made,
            List<String> due) {
        checks.same(text + ", changed by it", changed(start, new Call(text, made)).toString(), due.toString());
    }

    /** The calls that answer something else behind the call than without it. */
    private static List<String> changed(Supplier<Degreewall> start, Call call) {
        Map<String, String> without = new LinkedHashMap<>();
        Map<String, String> behind = new LinkedHashMap<>();
        for (List<Call> part : parts()) {
            // An office is used for 512 calls at most, so that each part has its own ones.
            Degreewall one = start.get();
            Degreewall other = start.get();
            call.answer(other);
            for (Call ask : part) {
                without.put(ask.text, ask.answer(one));
                behind.put(ask.text, ask.answer(other));
            }
        }
        List<String> changed = new ArrayList<>();
        for (String text : without.keySet()) {
            if (!without.get(text).equals(behind.get(text))) {
                changed.add(text);
            }
        }
        return changed;
    }

    /** All that can be asked with numbers that an office may have, in parts of less than 400 calls. */
    private static List<List<Call>> parts() {
        return List.of(ofEach(), ofTwoThings(), ofSums(0), ofSums(1), ofSums(2), ofSums(3));
    }

    private static List<Call> ofEach() {
        List<Call> calls = new ArrayList<>();
        for (int k = 0; k <= 13; k++) {
            int what = k;
            calls.add(new Call("house(" + what + ")", x -> x.house(what)));
        }
        for (int k = 0; k < 7; k++) {
            int a = k;
            calls.add(new Call("row(" + a + ")", x -> x.row(a)));
            for (int j = 0; j < 7; j++) {
                int b = j;
                calls.add(new Call("degree(" + a + ", " + b + ")", x -> x.degree(a, b)));
                calls.add(new Call("chain(" + a + ", " + b + ")", x -> x.chain(a, b)));
            }
        }
        addOfWhat(calls, "ofSource", 0, 7, 4);
        addOfWhat(calls, "ofTable", 10, 10, 2);
        addOfWhat(calls, "ofPermit", 0, 8, 5);
        addOfWhat(calls, "ofAsker", 0, 4, 4);
        calls.add(new Call("isSound()", Degreewall::isSound));
        calls.add(new Call("digest()", Degreewall::digest));
        return calls;
    }

    private static void addOfWhat(List<Call> calls, String name, int first, int count, int whats) {
        for (int k = first; k < first + count; k++) {
            for (int w = 0; w < whats; w++) {
                int number = k;
                int what = w;
                calls.add(new Call(name + "(" + number + ", " + what + ")", x -> ofWhat(x, name, number, what)));
            }
        }
    }

    private static Object ofWhat(Degreewall x, String name, int number, int what) {
        switch (name) {
            case "ofSource": return x.ofSource(number, what);
            case "ofTable": return x.ofTable(number, what);
            case "ofPermit": return x.ofPermit(number, what);
            default: return x.ofAsker(number, what);
        }
    }

    private static List<Call> ofTwoThings() {
        List<Call> calls = new ArrayList<>();
        for (int k = 0; k < 20; k++) {
            for (int j = 0; j <= k; j++) {
                int one = k;
                int other = j;
                if ((one < 7 || one >= 10) && (other < 7 || other >= 10)) {
                    calls.add(new Call("wouldJoin(" + one + ", " + other + ")", x -> x.wouldJoin(one, other)));
                }
            }
        }
        for (int k = 0; k < 4; k++) {
            for (int j = 0; j < 4; j++) {
                int one = k;
                int other = j;
                calls.add(new Call("wouldTalk(" + one + ", " + other + ")", x -> x.wouldTalk(one, other)));
            }
        }
        return calls;
    }

    private static List<Call> ofSums(int asker) {
        List<Call> calls = new ArrayList<>();
        for (int k = 0; k < 256; k++) {
            int people = k;
            calls.add(new Call("derived(" + asker + ", " + people + ")", x -> x.derived(asker, people)));
            if (k % 3 == 1) {
                calls.add(new Call("wouldGive(" + asker + ", " + people + ")", x -> x.wouldGive(asker, people)));
            }
        }
        return calls;
    }

    /** What many calls that change something answer, one behind the other, and the digests between them. */
    private static String later(Supplier<Degreewall> start, Call call) {
        Degreewall office = start.get();
        if (call != null) {
            call.answer(office);
        }
        StringBuilder text = new StringBuilder();
        for (Call next : LATER) {
            text.append(next.text).append(' ').append(next.answer(office)).append(' ').append(office.digest())
                    .append('\n');
        }
        return text.toString();
    }

    private static final List<Call> LATER = List.of(
            new Call("source", Degreewall::source), new Call("source", Degreewall::source),
            new Call("join", x -> x.join(0, 1)), new Call("join", x -> x.join(1, 1)),
            new Call("join", x -> x.join(10, 11)), new Call("kin", x -> x.kin(0, 1, true)),
            new Call("permit", x -> x.permit(1, 0, 3)), new Call("permit", x -> x.permit(0, 3, 9)),
            new Call("pass", x -> x.pass(3)), new Call("pass", x -> x.pass(1)),
            new Call("revoke", x -> x.revoke(0)), new Call("revoke", x -> x.revoke(3)),
            new Call("bar", x -> x.bar(3)), new Call("bar", x -> x.bar(0)),
            new Call("join", x -> x.join(0, 1)), new Call("kin", x -> x.kin(1, 0, false)),
            new Call("person", x -> x.person(500)), new Call("person", x -> x.person(501)),
            new Call("asker", Degreewall::asker), new Call("asker", Degreewall::asker),
            new Call("ask", x -> x.ask(0, 3)), new Call("ask", x -> x.ask(1, 7)),
            new Call("least", x -> x.least(1)), new Call("ask", x -> x.ask(0, 12)),
            new Call("ask", x -> x.ask(2, 28)), new Call("talk", x -> x.talk(0, 1)),
            new Call("talk", x -> x.talk(0, 2)), new Call("talk", x -> x.talk(1, 2)),
            new Call("knock", Degreewall::knock));
}
