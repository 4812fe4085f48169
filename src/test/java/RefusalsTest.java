import java.util.ArrayList;
import java.util.List;
import java.util.Set;
import java.util.TreeMap;

/**
 * Makes every call with all arguments about the ends of their ranges, in several states: what it answers or throws is
 * compared with the second writing of the document; and an object that refused calls, or was only asked, must answer
 * to all that comes as one does that was never called so.
 */
public final class RefusalsTest extends Checks {
    static final Set<String> QUESTIONS = Set.of("month", "at", "about", "struck", "errata", "open", "contradictions",
            "readAnew", "synopsis");

    private static final int[] ENDS = {Integer.MIN_VALUE, -2, -1, 0, 1, 2, 3, 4, 5, 6, 7, 8, 9, 10, 11, 23, 24, 25, 49,
        50, 51, 98, 99, 100, 255, 256, 65536, Integer.MAX_VALUE};
    private static final int[] FEW_ENDS = {Integer.MIN_VALUE, -2, -1, 0, 1, 3, 5, 6, 7, 8, 9, 10, 23, 24, 256,
        Integer.MAX_VALUE};
    private static final int[] SIGNS = {0, 9, 31, ' ', '!', ',', '-', '.', '0', 'A', 'Z', '`', 'a', 'b', 'm', 'y', 'z',
        '{', 127, 160, 173, 228, 'a' + 256, 8208, 65535};
    private static final int[] BOTH = {0, 1};
    private static final int[] NOTHING = {0};
    private static final int MOST_AT_ONCE = 20;

    private static final TreeMap<String, Integer> SEEN = new TreeMap<>();

    /** A call, and what it answered. */
    private record Call(String name, int a, int b, String answer) { }

    public static void main(String[] args) {
        look("a new one", States.FRESH);
        look("one with eight blanks", "draft ________");
        look("one with a letter", "draft _-_a");
        look("one in the writing", States.WRITING);
        look("a lively one", States.LIVELY);
        look("an eventful one", States.EVENTFUL);
        look("a full one", States.FULL);
        look("a finished one", States.FINISHED);
        System.out.println("refused calls: " + SEEN);
        end();
    }

    private static int[][] ranges(String name) {
        switch (name) {
            case "sign": return new int[][] {SIGNS, NOTHING};
            case "rule": case "open": case "contradictions": case "readAnew": return new int[][] {BOTH, NOTHING};
            case "forbid": return new int[][] {ENDS, BOTH};
            case "volume": return new int[][] {SIGNS, ENDS};
            case "article": case "under": case "use": case "change": case "quarrel": case "give": case "about":
                return new int[][] {FEW_ENDS, FEW_ENDS};
            case "erase": case "supplement": case "month": case "struck": return new int[][] {NOTHING, NOTHING};
            default: return new int[][] {ENDS, NOTHING};
        }
    }

    private static void look(String told, String state) {
        String before = Probes.afterwards(Script.state(state));
        is(told + ": all that can be seen", before, Probes.afterwards(() -> Script.make(new Model(), state)));
        List<Call> harmless = new ArrayList<>();
        for (String name : Calls.NAMES) {
            int[][] ranges = ranges(name);
            for (int a : ranges[0]) {
                for (int b : ranges[1]) {
                    String got = Script.state(state).get().told(name, a, b);
                    String due = Script.make(new Model(), state).told(name, a, b);
                    is(told + ": " + name + "(" + a + ", " + b + ")", got, due);
                    if (due.startsWith("java")) {
                        SEEN.merge(name + " " + due.substring(10), 1, Integer::sum);
                    }
                    if (due.startsWith("java") || QUESTIONS.contains(name)) {
                        harmless.add(new Call(name, a, b, due));
                    }
                }
            }
        }
        for (int i = 0; i < harmless.size(); i += MOST_AT_ONCE) {
            List<Call> some = harmless.subList(i, Math.min(i + MOST_AT_ONCE, harmless.size()));
            is(told + ": it answers as before after " + some, Probes.afterwards(() -> called(state, some)), before);
        }
    }

    private static Calls called(String state, List<Call> calls) {
        Calls x = Script.state(state).get();
        for (Call call : calls) {
            is("again: " + call, x.told(call.name, call.a, call.b), call.answer);
        }
        return x;
    }
}
