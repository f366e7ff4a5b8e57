import java.util.ArrayList;
import java.util.List;
import java.util.Random;
import java.util.function.Function;

/** Random runs with fixed seeds: each answer of the office is that of the model, and so is all that can be asked. */
public final class ModelTest {
    private static final int RUNS = 240;
    private static final int CALLS = 160;
    private static final int CALLS_OF_AN_OFFICE = 512;
    private static final String[] KINDS = {
        "source", "kin", "kin", "kin", "bar", "join", "join", "join",
        "permit", "permit", "permit", "revoke", "pass",
        "person", "person", "asker", "least", "ask", "ask", "ask", "ask", "talk", "knock"};
    private static final Checks checks = new Checks();

    /** An office that was led to where another one is; a new one takes its place when its calls are used up. */
    private static final class Replay {
        private final List<Function<Degreewall, Object>> steps;
        private Degreewall office;
        private int used = CALLS_OF_AN_OFFICE;

        Replay(List<Function<Degreewall, Object>> steps) {
            this.steps = steps;
        }

        Degreewall office() {
            if (used == CALLS_OF_AN_OFFICE) {
                office = new Degreewall();
                for (Function<Degreewall, Object> step : steps) {
                    Checks.answerOf(() -> step.apply(office));
                }
                used = steps.size();
            }
            used++;
            return office;
        }
    }

    public static void main(String[] args) {
        for (int run = 0; run < RUNS && !checks.anyWrong(); run++) {
            run(run);
        }
        checks.end();
    }

    private static void run(int seed) {
        Random random = new Random(seed);
        Degreewall office = new Degreewall();
        Model model = new Model();
        int part = seed % 4;
        List<Function<Degreewall, Object>> steps = new ArrayList<>();
        StringBuilder calls = new StringBuilder("run " + seed + ":");
        for (int k = 0; k < CALLS && !checks.anyWrong(); k++) {
            String kind = KINDS[from(part, random)];
            int a = argument(kind, random);
            int b = kind.equals("ask") ? 1 + random.nextInt(255) : argument(kind, random);
            if (random.nextInt(40) == 0) {
                b = random.nextBoolean() ? -1 : random.nextInt();
            }
            int c = kind.equals("permit") ? random.nextInt(30) * random.nextInt(40) - 3 : random.nextInt(9);
            calls.append(' ').append(kind).append('(').append(a).append(", ").append(b).append(", ").append(c)
                    .append(')');
            int other = b;
            steps.add(x -> call(x, kind, a, other, c));
            String got = Checks.answerOf(() -> call(office, kind, a, other, c));
            checks.same(calls.toString(), got, Checks.answerOf(() -> call(model, kind, a, other, c)));
            checks.same(calls + " digest", Checks.answerOf(office::digest), Checks.answerOf(model::digest));
            checks.same(calls + " sound", Checks.answerOf(office::isSound), Checks.answerOf(model::isSound));
            if (k % 10 == 9) {
                compareAll(calls.toString(), new Replay(steps), model, random);
            }
        }
    }

    /** A place in KINDS: runs of part 0 keep to sources and tables, 1 to permits, too, 2 to sums; 3 has all. */
    private static int from(int part, Random random) {
        switch (part) {
            case 0:
                return random.nextInt(8);
            case 1:
                return random.nextInt(13) == 0 ? 0 : 1 + random.nextInt(12);
            case 2:
                return 13 + random.nextInt(KINDS.length - 13);
            default:
                return random.nextInt(KINDS.length);
        }
    }

    private static int argument(String kind, Random random) {
        switch (kind) {
            case "bar":
                return random.nextInt(8) - 1;
            case "join":
                return random.nextInt(3) == 0 ? random.nextInt(22) - 1 : random.nextInt(7);
            case "revoke":
                return random.nextInt(10) - 1;
            case "pass":
                return random.nextInt(8) == 0 ? random.nextInt(403) - 1 : random.nextInt(12);
            case "person":
                return random.nextInt(20) == 0 ? 1000 : random.nextInt(1000);
            case "least":
                return random.nextInt(3) == 0 ? random.nextInt(8) - 1 : 1 + random.nextInt(2);
            case "ask":
            case "talk":
                return random.nextInt(20) == 0 ? 4 : random.nextInt(4);
            default:
                return random.nextInt(30) == 0 ? 7 : random.nextInt(7);
        }
    }

    private static Object call(Degreewall x, String kind, int a, int b, int c) {
        switch (kind) {
            case "source": return x.source();
            case "kin": return x.kin(a, b, c > 2);
            case "bar": return x.bar(a);
            case "join": return x.join(a, b);
            case "permit": return x.permit(a, b, c);
            case "revoke": return x.revoke(a);
            case "pass": return x.pass(a);
            case "person": return x.person(a);
            case "asker": return x.asker();
            case "least": return x.least(a);
            case "ask": return x.ask(a, b);
            case "talk": return x.talk(a, b);
            default: return x.knock();
        }
    }

    private static Object call(Model x, String kind, int a, int b, int c) {
        switch (kind) {
            case "source": return x.source();
            case "kin": return x.kin(a, b, c > 2);
            case "bar": return x.bar(a);
            case "join": return x.join(a, b);
            case "permit": return x.permit(a, b, c);
            case "revoke": return x.revoke(a);
            case "pass": return x.pass(a);
            case "person": return x.person(a);
            case "asker": return x.asker();
            case "least": return x.least(a);
            case "ask": return x.ask(a, b);
            case "talk": return x.talk(a, b);
            default: return x.knock();
        }
    }

    private static void compareAll(String calls, Replay x, Model y, Random random) {
        for (int i = -1; i <= 20; i++) {
            int a = i;
            same(calls, "row", a, 0, Checks.answerOf(() -> x.office().row(a)), Checks.answerOf(() -> y.row(a)));
            same(calls, "house", a, 0, Checks.answerOf(() -> x.office().house(a)), Checks.answerOf(() -> y.house(a)));
            for (int j = -1; j <= 20; j++) {
                int b = j;
                compareTwo(calls, x, y, a, b);
            }
            for (int k = 0; k < 12; k++) {
                int b = random.nextInt(300) - 3;
                compareSums(calls, x, y, a, b);
            }
        }
    }

    private static void compareTwo(String calls, Replay x, Model y, int a, int b) {
        same(calls, "wouldJoin", a, b, Checks.answerOf(() -> x.office().wouldJoin(a, b)),
                Checks.answerOf(() -> y.wouldJoin(a, b)));
        same(calls, "ofTable", a, b, Checks.answerOf(() -> x.office().ofTable(a, b)),
                Checks.answerOf(() -> y.ofTable(a, b)));
        if (a > 8 || b > 8) {
            return;
        }
        same(calls, "degree", a, b, Checks.answerOf(() -> x.office().degree(a, b)),
                Checks.answerOf(() -> y.degree(a, b)));
        same(calls, "chain", a, b, Checks.answerOf(() -> x.office().chain(a, b)), Checks.answerOf(() -> y.chain(a, b)));
        same(calls, "wouldTalk", a, b, Checks.answerOf(() -> x.office().wouldTalk(a, b)),
                Checks.answerOf(() -> y.wouldTalk(a, b)));
        same(calls, "ofSource", a, b, Checks.answerOf(() -> x.office().ofSource(a, b)),
                Checks.answerOf(() -> y.ofSource(a, b)));
        same(calls, "ofPermit", a, b, Checks.answerOf(() -> x.office().ofPermit(a, b)),
                Checks.answerOf(() -> y.ofPermit(a, b)));
        same(calls, "ofAsker", a, b, Checks.answerOf(() -> x.office().ofAsker(a, b)),
                Checks.answerOf(() -> y.ofAsker(a, b)));
    }

    private static void compareSums(String calls, Replay x, Model y, int asker, int people) {
        same(calls, "derived", asker, people, Checks.answerOf(() -> x.office().derived(asker, people)),
                Checks.answerOf(() -> y.derived(asker, people)));
        same(calls, "wouldGive", asker, people, Checks.answerOf(() -> x.office().wouldGive(asker, people)),
                Checks.answerOf(() -> y.wouldGive(asker, people)));
    }

    private static void same(String calls, String name, int a, int b, String got, String want) {
        checks.same(calls + " then " + name + "(" + a + ", " + b + ")", got, want);
    }
}
