import java.util.ArrayList;
import java.util.Collections;
import java.util.HashMap;
import java.util.HashSet;
import java.util.List;
import java.util.Map;
import java.util.Set;

/**
 * The document, written a second time, with its state kept in another way: every printing goes into a record, and a
 * set is read by going through that record.
 */
final class Model implements Answering {
    private static final class Entry {
        String headword;
        int subject;
        int worth;
        List<String> references = new ArrayList<>();
        Set<Integer> facts = new HashSet<>();
        boolean forbidden;
        boolean printed;
        boolean text;
        int writer = -1;
        int end = -1;
    }

    private static final class Writer {
        int pace;
        boolean dead;
        int errata;
        List<Entry> queue = new ArrayList<>();
        Set<Integer> enemies = new HashSet<>();
    }

    private enum Kind { VOLUME, HEADWORD, PROMISE, STRUCK, FACT, MISSING }

    /** What was printed or told: by which article, of which reference or fact, and of what value. */
    private record Record(Kind kind, int article, int which, int value, boolean secret) { }

    String draft = "";
    boolean byWords;
    int month;
    final List<Entry> articles = new ArrayList<>();
    final List<int[]> volumes = new ArrayList<>();
    final Set<Integer> printedVolumes = new HashSet<>();
    final List<Writer> writers = new ArrayList<>();
    final Map<Integer, Integer> above = new HashMap<>();
    final int[] values = new int[8];
    final List<Record> printed = new ArrayList<>();

    @Override
    public long answer(String name, int a, int b) {
        switch (name) {
            case "sign": return sign((char) a);
            case "erase": return takeDraft().length();
            case "rule": return rule(a == 1);
            case "article": return article(a, b);
            case "under": return under(a, b);
            case "refer": return refer(a);
            case "use": return use(a, b);
            case "change": return change(a, b);
            case "forbid": return forbid(a, b == 1);
            case "volume": return volume((char) a, b);
            case "contributor": return contributor(a);
            case "quarrel": return quarrel(a, b);
            case "give": return give(a, b);
            case "die": return die(a);
            case "pass": return pass(a);
            case "print": return print(a);
            case "supplement": return supplement();
            case "month": return month;
            case "at": bounds(a >= 0); return a < articles.size() ? articles.indexOf(inOrder().get(a)) : -1;
            case "about": return about(a, b);
            case "struck": return printed.stream().filter(r -> r.kind == Kind.STRUCK).count();
            case "errata": bounds(b(a, writers.size())); return writers.get(a).errata;
            case "open": return read(a == 1) / 100;
            case "contradictions": return read(a == 1) % 100;
            case "readAnew": return read(a == 1);
            case "synopsis": return synopsis(a);
            default: throw new Error(name);
        }
    }

    private static boolean b(int index, int count) {
        return index >= 0 && index < count;
    }

    private static void bounds(boolean isRight) {
        if (!isRight) {
            throw new IndexOutOfBoundsException();
        }
    }

    private static void argument(boolean isRight) {
        if (!isRight) {
            throw new IllegalArgumentException();
        }
    }

    private static void state(boolean isRight) {
        if (!isRight) {
            throw new IllegalStateException();
        }
    }

    private String takeDraft() {
        String was = draft;
        draft = "";
        return was;
    }

    private static boolean hasLetter(String headword) {
        return headword.chars().anyMatch(Character::isLetter);
    }

    private String key(String headword) {
        return byWords ? headword.replace('-', ' ') : headword.replace("-", "").replace(" ", "");
    }

    private List<Entry> inOrder() {
        List<Entry> row = new ArrayList<>(articles);
        row.sort((p, q) -> key(p.headword).compareTo(key(q.headword)));
        return row;
    }

    private int volumeOf(String headword) {
        char first = headword.replace("-", "").replace(" ", "").charAt(0);
        int i = 0;
        for (int[] volume : volumes) {
            if (first <= volume[0]) {
                return i;
            }
            i++;
        }
        return -1;
    }

    private boolean isPrintedVolume(String headword) {
        return printedVolumes.contains(volumeOf(headword));
    }

    private int columns(Entry asked) {
        int volume = volumeOf(asked.headword);
        List<Entry> row = new ArrayList<>();
        int worths = 0;
        for (Entry entry : inOrder()) {
            if (volume >= 0 && volumeOf(entry.headword) == volume && entry.worth > 0) {
                row.add(entry);
                worths += entry.worth;
            }
        }
        if (!row.contains(asked)) {
            return 0;
        }
        int budget = volumes.get(volume)[1];
        Map<Entry, Integer> got = new HashMap<>();
        int left = budget;
        for (Entry entry : row) {
            got.put(entry, budget * entry.worth / worths);
            left -= got.get(entry);
        }
        int all = worths;
        row.sort((p, q) -> budget * q.worth % all - budget * p.worth % all);
        for (Entry entry : row.subList(0, left)) {
            got.merge(entry, 1, Integer::sum);
        }
        return got.get(asked);
    }

    private long sign(char sign) {
        argument("abcdefghijklmnopqrstuvwxyz -".indexOf(sign) >= 0);
        state(draft.length() < 8);
        draft += sign;
        return draft.length();
    }

    private long rule(boolean isByWords) {
        state(printedVolumes.isEmpty());
        boolean was = byWords;
        byWords = isByWords;
        return was ? 1 : 0;
    }

    private long article(int subject, int worth) {
        bounds(b(subject, 10));
        argument(b(worth, 10));
        state(articles.size() < 24 && hasLetter(draft));
        Entry entry = new Entry();
        entry.headword = takeDraft();
        entry.subject = subject;
        entry.worth = worth;
        articles.add(entry);
        return articles.size() - 1;
    }

    private long under(int subject, int over) {
        bounds(b(subject, 10) && b(over + 1, 11));
        argument(over < subject);
        Integer was = above.put(subject, over);
        return was == null ? -1 : was;
    }

    private long refer(int article) {
        bounds(b(article, articles.size()));
        Entry entry = articles.get(article);
        state(!entry.printed && entry.references.size() < 4 && hasLetter(draft));
        entry.references.add(takeDraft());
        return entry.references.size();
    }

    private long use(int article, int fact) {
        bounds(b(article, articles.size()) && b(fact, 8));
        state(!articles.get(article).printed && articles.get(article).worth > 0);
        return articles.get(article).facts.add(fact) ? 1 : 0;
    }

    private long change(int fact, int value) {
        bounds(b(fact, 8));
        int was = values[fact];
        values[fact] = value;
        return was;
    }

    private long forbid(int article, boolean is) {
        bounds(b(article, articles.size()));
        Entry entry = articles.get(article);
        state(!entry.printed);
        boolean was = entry.forbidden;
        entry.forbidden = is;
        return was ? 1 : 0;
    }

    private long volume(char last, int columns) {
        argument(last >= 'a' && last <= 'z' && columns >= 1 && columns <= 99);
        argument(volumes.isEmpty() || last > volumes.get(volumes.size() - 1)[0]);
        state(volumes.size() < 4);
        volumes.add(new int[] {last, columns});
        return volumes.size() - 1;
    }

    private long contributor(int pace) {
        argument(pace >= 1 && pace <= 9);
        state(writers.size() < 6);
        Writer writer = new Writer();
        writer.pace = pace;
        writers.add(writer);
        return writers.size() - 1;
    }

    private long quarrel(int one, int other) {
        bounds(b(one, writers.size()) && b(other, writers.size()));
        argument(one != other);
        writers.get(other).enemies.add(one);
        return writers.get(one).enemies.add(other) ? 0 : 1;
    }

    private boolean refersTo(Entry from, Entry to) {
        return from.references.stream().anyMatch(r -> key(r).equals(key(to.headword)));
    }

    private long give(int article, int contributor) {
        bounds(b(article, articles.size()) && b(contributor, writers.size()));
        Entry entry = articles.get(article);
        Writer writer = writers.get(contributor);
        state(entry.worth > 0 && volumeOf(entry.headword) >= 0 && !isPrintedVolume(entry.headword));
        state(entry.writer < 0 && !entry.text && !writer.dead);
        state(articles.stream().noneMatch(o -> writer.enemies.contains(o.writer)
                && (refersTo(entry, o) || refersTo(o, entry))));
        entry.writer = contributor;
        writer.queue.add(entry);
        begin(writer);
        return writer.queue.size();
    }

    private void begin(Writer writer) {
        if (!writer.queue.isEmpty() && writer.queue.get(0).end < 0) {
            Entry entry = writer.queue.get(0);
            int months = 1;
            while (months * writer.pace < columns(entry)) {
                months++;
            }
            entry.end = month + months;
        }
    }

    private long die(int contributor) {
        bounds(b(contributor, writers.size()));
        Writer writer = writers.get(contributor);
        state(!writer.dead);
        writer.dead = true;
        for (Entry entry : writer.queue) {
            entry.writer = -1;
            entry.end = -1;
        }
        long back = writer.queue.size();
        writer.queue.clear();
        return back;
    }

    private long pass(int months) {
        argument(months >= 1 && months <= 50);
        long written = 0;
        for (int until = month + months; month < until;) {
            month++;
            for (Writer writer : writers) {
                while (!writer.queue.isEmpty() && writer.queue.get(0).end <= month) {
                    writer.queue.remove(0).text = true;
                    written++;
                    begin(writer);
                }
            }
        }
        return written;
    }

    private long print(int volume) {
        bounds(b(volume, volumes.size()));
        state(!printedVolumes.contains(volume) && printedVolumes.size() == volume);
        printedVolumes.add(volume);
        return press(Collections.singleton(volume));
    }

    private long press(Set<Integer> which) {
        List<Entry> now = new ArrayList<>();
        for (Entry entry : articles) {
            if (!entry.printed && (entry.worth == 0 || entry.text) && which.contains(volumeOf(entry.headword))) {
                entry.printed = true;
                now.add(entry);
            }
        }
        for (int volume : which) {
            printed.add(new Record(Kind.VOLUME, -1, volume, 0, false));
        }
        for (Entry entry : now) {
            int number = articles.indexOf(entry);
            printed.add(new Record(Kind.HEADWORD, number, 0, 0, false));
            for (int r = 0; r < entry.references.size(); r++) {
                String to = entry.references.get(r);
                if (articles.stream().noneMatch(o -> o.printed && key(o.headword).equals(key(to)))) {
                    Kind kind = isPrintedVolume(to) ? Kind.STRUCK : Kind.PROMISE;
                    printed.add(new Record(kind, number, r, 0, entry.forbidden));
                }
            }
            for (int fact : entry.facts) {
                printed.add(new Record(Kind.FACT, number, fact, values[fact], entry.forbidden));
            }
        }
        return now.size();
    }

    private int lastTold(int article, int fact) {
        int value = 0;
        for (Record record : printed) {
            if (record.kind == Kind.FACT && record.article == article && record.which == fact) {
                value = record.value;
            }
        }
        return value;
    }

    private long supplement() {
        state(!printedVolumes.isEmpty());
        long told = 100 * press(printedVolumes);
        for (Entry entry : articles) {
            int number = articles.indexOf(entry);
            for (int fact = 0; entry.printed && fact < 8; fact++) {
                if (entry.facts.contains(fact) && lastTold(number, fact) != values[fact]) {
                    printed.add(new Record(Kind.FACT, number, fact, values[fact], entry.forbidden));
                    writers.get(entry.writer).errata++;
                    told++;
                }
            }
        }
        List<Record> missing = new ArrayList<>();
        for (Record record : unkept(printed)) {
            missing.add(new Record(Kind.MISSING, record.article, record.which, 0, record.secret));
        }
        printed.addAll(missing);
        return told + missing.size();
    }

    private String headwordOf(Record reference) {
        return articles.get(reference.article).references.get(reference.which);
    }

    /** The promises of a row of records that are neither kept nor told in it, though their volume is in it. */
    private List<Record> unkept(List<Record> row) {
        Set<Integer> read = new HashSet<>();
        Set<String> there = new HashSet<>();
        List<Record> promises = new ArrayList<>();
        for (Record record : row) {
            if (record.kind == Kind.VOLUME) {
                read.add(record.which);
            } else if (record.kind == Kind.HEADWORD) {
                there.add(key(articles.get(record.article).headword));
            } else if (record.kind == Kind.PROMISE) {
                promises.add(record);
            } else if (record.kind == Kind.MISSING) {
                promises.removeIf(p -> p.article == record.article && p.which == record.which);
            }
        }
        promises.removeIf(p -> there.contains(key(headwordOf(p))) || !read.contains(volumeOf(headwordOf(p))));
        return promises;
    }

    private long read(boolean isSecret) {
        List<Record> set = new ArrayList<>();
        Map<Integer, Map<Integer, Integer>> facts = new HashMap<>();
        for (Record record : printed) {
            if (isSecret || !record.secret) {
                set.add(record);
                if (record.kind == Kind.FACT) {
                    facts.computeIfAbsent(record.which, f -> new HashMap<>()).put(record.article, record.value);
                }
            }
        }
        long contradicted = facts.values().stream().filter(f -> new HashSet<>(f.values()).size() > 1).count();
        return 100 * unkept(set).size() + contradicted;
    }

    long about(int article, int what) {
        bounds(b(article, articles.size()));
        argument(b(what, 5));
        Entry entry = articles.get(article);
        int state = entry.printed ? 3 : entry.text ? 2 : entry.writer >= 0 ? 1 : 0;
        return new int[] {state, volumeOf(entry.headword), columns(entry), entry.writer, entry.end}[what];
    }

    private long synopsis(int subject) {
        bounds(b(subject, 10));
        return articles.stream().filter(e -> e.printed && isUnder(e.subject, subject)).count();
    }

    private boolean isUnder(int subject, int top) {
        return subject == top || above.getOrDefault(subject, -1) >= 0 && isUnder(above.get(subject), top);
    }
}
