import java.util.ArrayList;
import java.util.Collections;
import java.util.HashMap;
import java.util.HashSet;
import java.util.List;
import java.util.Map;
import java.util.Set;

/**
 * Compares long runs of mixed calls, right and wrong ones, with a second writing of the document that keeps its
 * state in another way: every printing goes into a record, and a set is read by going through that record.
 */
public final class ModelTest {
    private static final int RUNS = 6000;
    private static final int CALLS = 512;

    private static final Set<String> ASKED_OF_PRINT = Set.of("print", "supplement", "struck", "errata", "open",
            "contradictions", "readAnew", "synopsis");

    private static int failed = 0;

    public static void main(String[] args) {
        Map<String, Integer> answers = new HashMap<>();
        for (int run = 0; run < RUNS && failed < 10; run++) {
            compare(run, answers);
        }
        System.out.println("answers by kind of call: " + new java.util.TreeMap<>(answers));
        List<String> needed = new ArrayList<>(List.of(Run.NAMES));
        for (String name : ASKED_OF_PRINT) {
            needed.add(name + " not 0");
        }
        for (String name : needed) {
            if (!answers.containsKey(name)) {
                failed++;
                System.out.println("no run ever answered " + name);
            }
        }
        System.out.println((RUNS - failed) + " passed, " + failed + " failed");
        if (failed > 0) {
            System.exit(1);
        }
    }

    private static void compare(int seed, Map<String, Integer> answers) {
        Run run = new Run(seed);
        CircleOfLeaves x = new CircleOfLeaves();
        Model model = new Model();
        StringBuilder told = new StringBuilder();
        for (int i = 0; i < CALLS; i++) {
            run.next(model);
            String due;
            try {
                due = String.valueOf(model.answer(run.name, run.a, run.b));
            } catch (RuntimeException e) {
                due = e.getClass().getName();
            }
            String got;
            try {
                got = String.valueOf(call(x, run.name, run.a, run.b));
            } catch (RuntimeException e) {
                got = e.getClass().getName();
            }
            if (ASKED_OF_PRINT.contains(run.name) && !due.equals("0") && !due.startsWith("java")) {
                answers.merge(run.name + " not 0", 1, Integer::sum);
            }
            String key = due.startsWith("java") ? run.name + " throws " + due.substring(10) : run.name;
            answers.merge(key, 1, Integer::sum);
            told.append(run.name).append('(').append(run.a).append(", ").append(run.b).append(") ").append(got)
                    .append('\n');
            if (!due.equals(got)) {
                failed++;
                System.out.println("run " + seed + ", call " + i + ", due is " + due + ":\n" + told);
                return;
            }
        }
    }

    private static long call(CircleOfLeaves x, String name, int a, int b) {
        switch (name) {
            case "sign": return x.sign((char) a);
            case "erase": return x.erase();
            case "rule": return x.rule(a == 1) ? 1 : 0;
            case "article": return x.article(a, b);
            case "under": return x.under(a, b);
            case "refer": return x.refer(a);
            case "use": return x.use(a, b) ? 1 : 0;
            case "change": return x.change(a, b);
            case "forbid": return x.forbid(a, b == 1) ? 1 : 0;
            case "volume": return x.volume((char) a, b);
            case "contributor": return x.contributor(a);
            case "quarrel": return x.quarrel(a, b) ? 1 : 0;
            case "give": return x.give(a, b);
            case "die": return x.die(a);
            case "pass": return x.pass(a);
            case "print": return x.print(a);
            case "supplement": return x.supplement();
            case "month": return x.month();
            case "at": return x.at(a);
            case "about": return x.about(a, b);
            case "struck": return x.struck();
            case "errata": return x.errata(a);
            case "open": return x.open(a == 1);
            case "contradictions": return x.contradictions(a == 1);
            case "readAnew": return x.readAnew(a == 1);
            case "synopsis": return x.synopsis(a);
            default: throw new Error(name);
        }
    }

    /** Chooses the calls of a run, from its number alone. */
    private static final class Run {
        static final String[] NAMES = {"sign", "erase", "rule", "article", "under", "refer", "use", "change", "forbid",
            "volume", "contributor", "quarrel", "give", "die", "pass", "print", "supplement", "month", "at", "about",
            "struck", "errata", "open", "contradictions", "readAnew", "synopsis"};
        private static final int[] WEIGHTS = {0, 1, 1, 22, 4, 22, 14, 6, 6,
            5, 4, 2, 30, 1, 8, 7, 5, 1, 8, 24, 3, 5, 6, 6, 6, 5};

        private final List<Integer> signs = new ArrayList<>();
        private final int letters;
        private final int rareness;
        private final int lateness;
        private final int plannedCalls;
        private final int facts;
        private final int mostArticles;
        private int calls;
        private long state;
        private String after = "";
        String name;
        int a;
        int b;

        Run(int seed) {
            state = seed * 2654435761L + 12345;
            letters = new int[] {2, 3, 4, 6, 26}[draw(5)];
            rareness = new int[] {8, 20, 60}[draw(3)];
            lateness = new int[] {1, 5, 20}[draw(3)];
            plannedCalls = new int[] {0, 150, 300}[draw(3)];
            facts = new int[] {1, 2, 8}[draw(3)];
            mostArticles = new int[] {8, 16, 23}[draw(3)];
        }

        /** A number from 0 up to below the bound: Knuth's linear congruential row, its upper half. */
        private int draw(int bound) {
            state = state * 6364136223846793005L + 1442695040888963407L;
            return (int) ((state >>> 33) % bound);
        }

        void next(Model model) {
            calls++;
            if (!signs.isEmpty()) {
                set("sign", signs.remove(0), 0);
                return;
            }
            if (after.isEmpty()) {
                choose(model);
                if (name.equals("article") || name.equals("refer")) {
                    after = name;
                    spell();
                    next(model);
                    return;
                }
            } else {
                name = after;
                after = "";
            }
            arguments(model);
        }

        private void set(String call, int first, int second) {
            name = call;
            a = first;
            b = second;
        }

        private void choose(Model model) {
            int sum = 0;
            for (int weight : WEIGHTS) {
                sum += weight;
            }
            int drawn = draw(sum);
            int i = 0;
            while (drawn >= WEIGHTS[i]) {
                drawn -= WEIGHTS[i];
                i++;
            }
            name = NAMES[i];
            if ((name.equals("print") || name.equals("die")) && (calls < plannedCalls || draw(lateness) > 0)) {
                name = draw(2) == 0 ? "give" : "pass";
            }
            if (calls <= 8 && draw(4) > 0) {
                name = draw(2) == 0 ? "volume" : "contributor";
            }
            if (name.equals("article") && model.articles.size() > mostArticles && draw(20) > 0) {
                name = new String[] {"give", "use", "change", "pass", "contradictions"}[draw(5)];
            }
        }

        private void spell() {
            int length = draw(rareness) == 0 ? draw(11) : 1 + draw(3);
            for (int i = 0; i < length; i++) {
                int kind = draw(rareness);
                if (kind == 0) {
                    signs.add((int) "AZ`{_0!".charAt(draw(7)));
                } else {
                    signs.add(draw(5) == 0 ? " -".charAt(draw(2)) : 'a' + draw(letters));
                }
            }
            if (signs.isEmpty()) {
                signs.add((int) '-');
            }
        }

        private int number(int count) {
            if (draw(rareness) == 0) {
                int[] wrong = {-1, count, count + 1, Integer.MAX_VALUE, Integer.MIN_VALUE, -2};
                return wrong[draw(wrong.length)];
            }
            return count == 0 ? 0 : draw(count);
        }

        private int nextLetter(Model model) {
            int behind = model.volumes.isEmpty() ? 'a' - 1 : model.volumes.get(model.volumes.size() - 1)[0];
            return draw(3) == 0 ? 'a' + draw(letters) : behind + 1 + draw(1 + letters / 4);
        }

        private int toGive(Model model) {
            int article = number(model.articles.size());
            for (int i = 0; i < model.articles.size() && draw(4) > 0; i++) {
                if (Model.b(article, model.articles.size()) && model.about(article, 0) == 0 && model.about(article, 2) > 0) {
                    return article;
                }
                article = draw(model.articles.size());
            }
            return article;
        }

        private void arguments(Model model) {
            a = 0;
            b = 0;
            switch (name) {
                case "rule": case "open": case "contradictions": case "readAnew": a = draw(2); break;
                case "article": a = number(10); b = draw(4) == 0 ? 0 : number(10); break;
                case "under": a = number(10); b = draw(5) == 0 ? -1 : a > 0 && draw(4) > 0 ? draw(Math.min(a, 10))
                        : number(10); break;
                case "refer": a = number(model.articles.size()); break;
                case "use": a = number(model.articles.size()); b = number(facts); break;
                case "change": a = number(facts); b = draw(4); break;
                case "forbid": a = number(model.articles.size()); b = draw(2); break;
                case "volume": a = draw(rareness) == 0 ? "AZ`{ -".charAt(draw(6)) : nextLetter(model);
                    b = draw(rareness) == 0 ? 98 + draw(4) : number(draw(2) == 0 ? 100 : 20); break;
                case "contributor": a = number(10); break;
                case "quarrel": a = number(model.writers.size()); b = number(model.writers.size()); break;
                case "give": a = toGive(model); b = number(model.writers.size()); break;
                case "die": case "errata": a = number(model.writers.size()); break;
                case "pass": a = draw(rareness) == 0 ? 49 + draw(4) : number(4); break;
                case "print": a = draw(4) == 0 ? number(model.volumes.size()) : model.printedVolumes.size(); break;
                case "at": a = number(model.articles.size() + 2); break;
                case "about": a = number(model.articles.size()); b = number(5); break;
                case "synopsis": a = number(10); break;
                default: break;
            }
        }
    }

    /** The document, written a second time. */
    private static final class Model {
        private static final class Entry {
            String headword;
            int subject;
            int worth;
            List<String> references = new ArrayList<>();
            Set<Integer> facts = new HashSet<>();
            boolean forbidden;
            boolean printed;
            boolean text;
            int writer = -1;
            int end = -1;
        }

        private static final class Writer {
            int pace;
            boolean dead;
            int errata;
            List<Entry> queue = new ArrayList<>();
            Set<Integer> enemies = new HashSet<>();
        }

        private enum Kind { VOLUME, HEADWORD, PROMISE, STRUCK, FACT, MISSING }

        /** What was printed or told: by which article, of which reference or fact, and of what value. */
        private record Record(Kind kind, int article, int which, int value, boolean secret) { }

        String draft = "";
        boolean byWords;
        int month;
        final List<Entry> articles = new ArrayList<>();
        final List<int[]> volumes = new ArrayList<>();
        final Set<Integer> printedVolumes = new HashSet<>();
        final List<Writer> writers = new ArrayList<>();
        final Map<Integer, Integer> above = new HashMap<>();
        final int[] values = new int[8];
        final List<Record> printed = new ArrayList<>();

        long answer(String name, int a, int b) {
            switch (name) {
                case "sign": return sign((char) a);
                case "erase": return takeDraft().length();
                case "rule": return rule(a == 1);
                case "article": return article(a, b);
                case "under": return under(a, b);
                case "refer": return refer(a);
                case "use": return use(a, b);
                case "change": bounds(b(a, 8)); values[a] ^= b; b ^= values[a]; values[a] ^= b; return b;
                case "forbid": return forbid(a, b == 1);
                case "volume": return volume((char) a, b);
                case "contributor": return contributor(a);
                case "quarrel": return quarrel(a, b);
                case "give": return give(a, b);
                case "die": return die(a);
                case "pass": return pass(a);
                case "print": return print(a);
                case "supplement": return supplement();
                case "month": return month;
                case "at": bounds(a >= 0); return a < articles.size() ? articles.indexOf(inOrder().get(a)) : -1;
                case "about": return about(a, b);
                case "struck": return printed.stream().filter(r -> r.kind == Kind.STRUCK).count();
                case "errata": bounds(b(a, writers.size())); return writers.get(a).errata;
                case "open": return read(a == 1) / 100;
                case "contradictions": return read(a == 1) % 100;
                case "readAnew": return read(a == 1);
                case "synopsis": return synopsis(a);
                default: throw new Error(name);
            }
        }

        private static boolean b(int index, int count) {
            return index >= 0 && index < count;
        }

        private static void bounds(boolean isRight) {
            if (!isRight) {
                throw new IndexOutOfBoundsException();
            }
        }

        private static void argument(boolean isRight) {
            if (!isRight) {
                throw new IllegalArgumentException();
            }
        }

        private static void state(boolean isRight) {
            if (!isRight) {
                throw new IllegalStateException();
            }
        }

        private String takeDraft() {
            String was = draft;
            draft = "";
            return was;
        }

        private static boolean hasLetter(String headword) {
            return headword.chars().anyMatch(Character::isLetter);
        }

        private String key(String headword) {
            return byWords ? headword.replace('-', ' ') : headword.replace("-", "").replace(" ", "");
        }

        private List<Entry> inOrder() {
            List<Entry> row = new ArrayList<>(articles);
            row.sort((p, q) -> key(p.headword).compareTo(key(q.headword)));
            return row;
        }

        private int volumeOf(String headword) {
            char first = headword.replace("-", "").replace(" ", "").charAt(0);
            int i = 0;
            for (int[] volume : volumes) {
                if (first <= volume[0]) {
                    return i;
                }
                i++;
            }
            return -1;
        }

        private boolean isPrintedVolume(String headword) {
            return printedVolumes.contains(volumeOf(headword));
        }

        private int columns(Entry asked) {
            int volume = volumeOf(asked.headword);
            List<Entry> row = new ArrayList<>();
            int worths = 0;
            for (Entry entry : inOrder()) {
                if (volume >= 0 && volumeOf(entry.headword) == volume && entry.worth > 0) {
                    row.add(entry);
                    worths += entry.worth;
                }
            }
            if (!row.contains(asked)) {
                return 0;
            }
            int budget = volumes.get(volume)[1];
            Map<Entry, Integer> got = new HashMap<>();
            int left = budget;
            for (Entry entry : row) {
                got.put(entry, budget * entry.worth / worths);
                left -= got.get(entry);
            }
            int all = worths;
            row.sort((p, q) -> budget * q.worth % all - budget * p.worth % all);
            for (Entry entry : row.subList(0, left)) {
                got.merge(entry, 1, Integer::sum);
            }
            return got.get(asked);
        }

        private long sign(char sign) {
            argument("abcdefghijklmnopqrstuvwxyz -".indexOf(sign) >= 0);
            state(draft.length() < 8);
            draft += sign;
            return draft.length();
        }

        private long rule(boolean isByWords) {
            state(printedVolumes.isEmpty());
            boolean was = byWords;
            byWords = isByWords;
            return was ? 1 : 0;
        }

        private long article(int subject, int worth) {
            bounds(b(subject, 10));
            argument(b(worth, 10));
            state(articles.size() < 24 && hasLetter(draft));
            Entry entry = new Entry();
            entry.headword = takeDraft();
            entry.subject = subject;
            entry.worth = worth;
            articles.add(entry);
            return articles.size() - 1;
        }

        private long under(int subject, int over) {
            bounds(b(subject, 10) && b(over + 1, 11));
            argument(over < subject);
            Integer was = above.put(subject, over);
            return was == null ? -1 : was;
        }

        private long refer(int article) {
            bounds(b(article, articles.size()));
            Entry entry = articles.get(article);
            state(!entry.printed && entry.references.size() < 4 && hasLetter(draft));
            entry.references.add(takeDraft());
            return entry.references.size();
        }

        private long use(int article, int fact) {
            bounds(b(article, articles.size()) && b(fact, 8));
            state(!articles.get(article).printed && articles.get(article).worth > 0);
            return articles.get(article).facts.add(fact) ? 1 : 0;
        }

        private long forbid(int article, boolean is) {
            bounds(b(article, articles.size()));
            Entry entry = articles.get(article);
            state(!entry.printed);
            boolean was = entry.forbidden;
            entry.forbidden = is;
            return was ? 1 : 0;
        }

        private long volume(char last, int columns) {
            argument(last >= 'a' && last <= 'z' && columns >= 1 && columns <= 99);
            argument(volumes.isEmpty() || last > volumes.get(volumes.size() - 1)[0]);
            state(volumes.size() < 4);
            volumes.add(new int[] {last, columns});
            return volumes.size() - 1;
        }

        private long contributor(int pace) {
            argument(pace >= 1 && pace <= 9);
            state(writers.size() < 6);
            Writer writer = new Writer();
            writer.pace = pace;
            writers.add(writer);
            return writers.size() - 1;
        }

        private long quarrel(int one, int other) {
            bounds(b(one, writers.size()) && b(other, writers.size()));
            argument(one != other);
            writers.get(other).enemies.add(one);
            return writers.get(one).enemies.add(other) ? 0 : 1;
        }

        private boolean refersTo(Entry from, Entry to) {
            return from.references.stream().anyMatch(r -> key(r).equals(key(to.headword)));
        }

        private long give(int article, int contributor) {
            bounds(b(article, articles.size()) && b(contributor, writers.size()));
            Entry entry = articles.get(article);
            Writer writer = writers.get(contributor);
            state(entry.worth > 0 && volumeOf(entry.headword) >= 0 && !isPrintedVolume(entry.headword));
            state(entry.writer < 0 && !entry.text && !writer.dead);
            state(articles.stream().noneMatch(o -> writer.enemies.contains(o.writer)
                    && (refersTo(entry, o) || refersTo(o, entry))));
            entry.writer = contributor;
            writer.queue.add(entry);
            begin(writer);
            return writer.queue.size();
        }

        private void begin(Writer writer) {
            if (!writer.queue.isEmpty() && writer.queue.get(0).end < 0) {
                Entry entry = writer.queue.get(0);
                int months = 1;
                while (months * writer.pace < columns(entry)) {
                    months++;
                }
                entry.end = month + months;
            }
        }

        private long die(int contributor) {
            bounds(b(contributor, writers.size()));
            Writer writer = writers.get(contributor);
            state(!writer.dead);
            writer.dead = true;
            for (Entry entry : writer.queue) {
                entry.writer = -1;
                entry.end = -1;
            }
            long back = writer.queue.size();
            writer.queue.clear();
            return back;
        }

        private long pass(int months) {
            argument(months >= 1 && months <= 50);
            long written = 0;
            for (int until = month + months; month < until;) {
                month++;
                for (Writer writer : writers) {
                    while (!writer.queue.isEmpty() && writer.queue.get(0).end <= month) {
                        writer.queue.remove(0).text = true;
                        written++;
                        begin(writer);
                    }
                }
            }
            return written;
        }

        private long print(int volume) {
            bounds(b(volume, volumes.size()));
            state(!printedVolumes.contains(volume) && printedVolumes.size() == volume);
            printedVolumes.add(volume);
            return press(Collections.singleton(volume));
        }

        private long press(Set<Integer> which) {
            List<Entry> now = new ArrayList<>();
            for (Entry entry : articles) {
                if (!entry.printed && (entry.worth == 0 || entry.text) && which.contains(volumeOf(entry.headword))) {
                    entry.printed = true;
                    now.add(entry);
                }
            }
            for (int volume : which) {
                printed.add(new Record(Kind.VOLUME, -1, volume, 0, false));
            }
            for (Entry entry : now) {
                int number = articles.indexOf(entry);
                printed.add(new Record(Kind.HEADWORD, number, 0, 0, false));
                for (int r = 0; r < entry.references.size(); r++) {
                    String to = entry.references.get(r);
                    if (articles.stream().noneMatch(o -> o.printed && key(o.headword).equals(key(to)))) {
                        Kind kind = isPrintedVolume(to) ? Kind.STRUCK : Kind.PROMISE;
                        printed.add(new Record(kind, number, r, 0, entry.forbidden));
                    }
                }
                for (int fact : entry.facts) {
                    printed.add(new Record(Kind.FACT, number, fact, values[fact], entry.forbidden));
                }
            }
            return now.size();
        }

        private int lastTold(int article, int fact) {
            int value = 0;
            for (Record record : printed) {
                if (record.kind == Kind.FACT && record.article == article && record.which == fact) {
                    value = record.value;
                }
            }
            return value;
        }

        private long supplement() {
            state(!printedVolumes.isEmpty());
            long told = 100 * press(printedVolumes);
            for (Entry entry : articles) {
                int number = articles.indexOf(entry);
                for (int fact = 0; entry.printed && fact < 8; fact++) {
                    if (entry.facts.contains(fact) && lastTold(number, fact) != values[fact]) {
                        printed.add(new Record(Kind.FACT, number, fact, values[fact], entry.forbidden));
                        writers.get(entry.writer).errata++;
                        told++;
                    }
                }
            }
            List<Record> missing = new ArrayList<>();
            for (Record record : unkept(printed)) {
                missing.add(new Record(Kind.MISSING, record.article, record.which, 0, record.secret));
            }
            printed.addAll(missing);
            return told + missing.size();
        }

        private String headwordOf(Record reference) {
            return articles.get(reference.article).references.get(reference.which);
        }

        /** The promises of a row of records that are neither kept nor told in it, though their volume is in it. */
        private List<Record> unkept(List<Record> row) {
            Set<Integer> read = new HashSet<>();
            Set<String> there = new HashSet<>();
            List<Record> promises = new ArrayList<>();
            for (Record record : row) {
                if (record.kind == Kind.VOLUME) {
                    read.add(record.which);
                } else if (record.kind == Kind.HEADWORD) {
                    there.add(key(articles.get(record.article).headword));
                } else if (record.kind == Kind.PROMISE) {
                    promises.add(record);
                } else if (record.kind == Kind.MISSING) {
                    promises.removeIf(p -> p.article == record.article && p.which == record.which);
                }
            }
            promises.removeIf(p -> there.contains(key(headwordOf(p))) || !read.contains(volumeOf(headwordOf(p))));
            return promises;
        }

        private long read(boolean isSecret) {
            List<Record> set = new ArrayList<>();
            Map<Integer, Map<Integer, Integer>> facts = new HashMap<>();
            for (Record record : printed) {
                if (isSecret || !record.secret) {
                    set.add(record);
                    if (record.kind == Kind.FACT) {
                        facts.computeIfAbsent(record.which, f -> new HashMap<>()).put(record.article, record.value);
                    }
                }
            }
            long contradicted = facts.values().stream().filter(f -> new HashSet<>(f.values()).size() > 1).count();
            return 100 * unkept(set).size() + contradicted;
        }

        private long about(int article, int what) {
            bounds(b(article, articles.size()));
            argument(b(what, 5));
            Entry entry = articles.get(article);
            int state = entry.printed ? 3 : entry.text ? 2 : entry.writer >= 0 ? 1 : 0;
            return new int[] {state, volumeOf(entry.headword), columns(entry), entry.writer, entry.end}[what];
        }

        private long synopsis(int subject) {
            bounds(b(subject, 10));
            return articles.stream().filter(e -> e.printed && isUnder(e.subject, subject)).count();
        }

        private boolean isUnder(int subject, int top) {
            return subject == top || above.getOrDefault(subject, -1) >= 0 && isUnder(above.get(subject), top);
        }
    }
}
