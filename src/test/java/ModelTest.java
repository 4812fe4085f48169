import java.util.ArrayList;
import java.util.HashMap;
import java.util.List;
import java.util.Map;
import java.util.Set;

/** Compares long runs of mixed calls, right and wrong ones, with a second writing of the document. */
public final class ModelTest {
    private static final int RUNS = 6000;

    private static final Set<String> ASKED_OF_PRINT = Set.of("print", "supplement", "struck", "errata", "open",
            "contradictions", "readAnew", "synopsis");

    private static int failed = 0;

    public static void main(String[] args) {
        Map<String, Integer> answers = new HashMap<>();
        for (int run = 0; run < RUNS && failed < 10; run++) {
            compare(run, answers);
        }
        System.out.println("answers by kind of call: " + new java.util.TreeMap<>(answers));
        List<String> needed = new ArrayList<>(Calls.NAMES);
        for (String name : ASKED_OF_PRINT) {
            needed.add(name + " not 0");
        }
        for (String name : needed) {
            if (!answers.containsKey(name)) {
                failed++;
                System.out.println("no run ever answered " + name);
            }
        }
        System.out.println((RUNS - failed) + " passed, " + failed + " failed");
        if (failed > 0) {
            System.exit(1);
        }
    }

    private static void compare(int seed, Map<String, Integer> answers) {
        Run run = new Run(seed);
        Calls x = new Calls(new CircleOfLeaves());
        Model model = new Model();
        StringBuilder told = new StringBuilder();
        for (int i = 0; i < Calls.MOST; i++) {
            run.next(model);
            String due = model.told(run.name, run.a, run.b);
            String got = x.told(run.name, run.a, run.b);
            if (ASKED_OF_PRINT.contains(run.name) && !due.equals("0") && !due.startsWith("java")) {
                answers.merge(run.name + " not 0", 1, Integer::sum);
            }
            String key = due.startsWith("java") ? run.name + " throws " + due.substring(10) : run.name;
            answers.merge(key, 1, Integer::sum);
            told.append(run.name).append('(').append(run.a).append(", ").append(run.b).append(") ").append(got)
                    .append('\n');
            if (!due.equals(got)) {
                failed++;
                System.out.println("run " + seed + ", call " + i + ", due is " + due + ":\n" + told);
                return;
            }
        }
    }

    /** Chooses the calls of a run, from its number alone. */
    private static final class Run {
        private static final int[] WEIGHTS = {0, 1, 1, 22, 4, 22, 14, 6, 6,
            5, 4, 2, 30, 1, 8, 7, 5, 1, 8, 24, 3, 5, 6, 6, 6, 5};

        private final List<Integer> signs = new ArrayList<>();
        private final int letters;
        private final int rareness;
        private final int lateness;
        private final int plannedCalls;
        private final int facts;
        private final int mostArticles;
        private int calls;
        private long state;
        private String after = "";
        String name;
        int a;
        int b;

        Run(int seed) {
            state = seed * 2654435761L + 12345;
            letters = new int[] {2, 3, 4, 6, 26}[draw(5)];
            rareness = new int[] {8, 20, 60}[draw(3)];
            lateness = new int[] {1, 5, 20}[draw(3)];
            plannedCalls = new int[] {0, 150, 300}[draw(3)];
            facts = new int[] {1, 2, 8}[draw(3)];
            mostArticles = new int[] {8, 16, 23}[draw(3)];
        }

        /** A number from 0 up to below the bound: Knuth's linear congruential row, its upper half. */
        private int draw(int bound) {
            state = state * 6364136223846793005L + 1442695040888963407L;
            return (int) ((state >>> 33) % bound);
        }

        void next(Model model) {
            calls++;
            if (!signs.isEmpty()) {
                set("sign", signs.remove(0), 0);
                return;
            }
            if (after.isEmpty()) {
                choose(model);
                if (name.equals("article") || name.equals("refer")) {
                    after = name;
                    spell();
                    next(model);
                    return;
                }
            } else {
                name = after;
                after = "";
            }
            arguments(model);
        }

        private void set(String call, int first, int second) {
            name = call;
            a = first;
            b = second;
        }

        private void choose(Model model) {
            int sum = 0;
            for (int weight : WEIGHTS) {
                sum += weight;
            }
            int drawn = draw(sum);
            int i = 0;
            while (drawn >= WEIGHTS[i]) {
                drawn -= WEIGHTS[i];
                i++;
            }
            name = Calls.NAMES.get(i);
            if ((name.equals("print") || name.equals("die")) && (calls < plannedCalls || draw(lateness) > 0)) {
                name = draw(2) == 0 ? "give" : "pass";
            }
            if (calls <= 8 && draw(4) > 0) {
                name = draw(2) == 0 ? "volume" : "contributor";
            }
            if (name.equals("article") && model.articles.size() > mostArticles && draw(20) > 0) {
                name = new String[] {"give", "use", "change", "pass", "contradictions"}[draw(5)];
            }
        }

        private void spell() {
            int length = draw(rareness) == 0 ? draw(11) : 1 + draw(3);
            for (int i = 0; i < length; i++) {
                int kind = draw(rareness);
                if (kind == 0) {
                    signs.add((int) "AZ`{_0!".charAt(draw(7)));
                } else {
                    signs.add(draw(5) == 0 ? " -".charAt(draw(2)) : 'a' + draw(letters));
                }
            }
            if (signs.isEmpty()) {
                signs.add((int) '-');
            }
        }

        private int number(int count) {
            if (draw(rareness) == 0) {
                int[] wrong = {-1, count, count + 1, Integer.MAX_VALUE, Integer.MIN_VALUE, -2};
                return wrong[draw(wrong.length)];
            }
            return count == 0 ? 0 : draw(count);
        }

        private int nextLetter(Model model) {
            int behind = model.volumes.isEmpty() ? 'a' - 1 : model.volumes.get(model.volumes.size() - 1)[0];
            return draw(3) == 0 ? 'a' + draw(letters) : behind + 1 + draw(1 + letters / 4);
        }

        private int toGive(Model model) {
            int article = number(model.articles.size());
            for (int i = 0; i < model.articles.size() && draw(4) > 0; i++) {
                boolean isThere = article >= 0 && article < model.articles.size();
                if (isThere && model.about(article, 0) == 0 && model.about(article, 2) > 0) {
                    return article;
                }
                article = draw(model.articles.size());
            }
            return article;
        }

        private void arguments(Model model) {
            a = 0;
            b = 0;
            switch (name) {
                case "rule": case "open": case "contradictions": case "readAnew": a = draw(2); break;
                case "article": a = number(10); b = draw(4) == 0 ? 0 : number(10); break;
                case "under": a = number(10); b = draw(5) == 0 ? -1 : a > 0 && draw(4) > 0 ? draw(Math.min(a, 10))
                        : number(10); break;
                case "refer": a = number(model.articles.size()); break;
                case "use": a = number(model.articles.size()); b = number(facts); break;
                case "change": a = number(facts); b = draw(4); break;
                case "forbid": a = number(model.articles.size()); b = draw(2); break;
                case "volume": a = draw(rareness) == 0 ? "AZ`{ -".charAt(draw(6)) : nextLetter(model);
                    b = draw(rareness) == 0 ? 98 + draw(4) : number(draw(2) == 0 ? 100 : 20); break;
                case "contributor": a = number(10); break;
                case "quarrel": a = number(model.writers.size()); b = number(model.writers.size()); break;
                case "give": a = toGive(model); b = number(model.writers.size()); break;
                case "die": case "errata": a = number(model.writers.size()); break;
                case "pass": a = draw(rareness) == 0 ? 49 + draw(4) : number(4); break;
                case "print": a = draw(4) == 0 ? number(model.volumes.size()) : model.printedVolumes.size(); break;
                case "at": a = number(model.articles.size() + 2); break;
                case "about": a = number(model.articles.size()); b = number(5); break;
                case "synopsis": a = number(10); break;
                default: break;
            }
        }
    }
}
