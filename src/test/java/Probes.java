import java.util.EnumMap;
import java.util.Map;
import java.util.function.Supplier;

/**
 * Tells all that can be seen of an object in a state, what is hidden in it too, by what it answers to long runs of
 * calls. Each run needs the state anew and makes fewer than 200 calls, so a state may take some 300 to come about.
 */
final class Probes {
    /** What a run of calls looks at. */
    enum Kind {
        QUESTIONS, LENGTHS, DRAFT, FIRST_FACTS, LAST_FACTS, ROWS, REFERENCES, PEOPLE, GIFTS, MONTHS, PRESS, VOLUMES
    }

    private static final int ARTICLES = 24;
    private static final int CONTRIBUTORS = 6;
    private static final int VOLUMES = 4;
    private static final int SUBJECTS = 10;
    private static final int FACTS = 8;

    private final Answering x;
    private final StringBuilder told = new StringBuilder();
    private int count;

    private Probes(Answering x) {
        this.x = x;
    }

    static String afterwards(Supplier<? extends Answering> state) {
        return byKind(state).toString();
    }

    static Map<Kind, String> byKind(Supplier<? extends Answering> state) {
        Map<Kind, String> all = new EnumMap<>(Kind.class);
        for (Kind kind : Kind.values()) {
            Probes probes = new Probes(state.get());
            probes.probe(kind);
            all.put(kind, probes.told.toString());
        }
        return all;
    }

    private void probe(Kind kind) {
        while (kind != Kind.QUESTIONS && count < ARTICLES && !x.told("about", count, 0).startsWith("java")) {
            count++;
        }
        switch (kind) {
            case QUESTIONS: questions(); break;
            case LENGTHS: lengths(); break;
            case DRAFT: draft(); break;
            case FIRST_FACTS: facts(0, FACTS / 2); break;
            case LAST_FACTS: facts(FACTS / 2, FACTS); break;
            case ROWS: rows(); break;
            case REFERENCES: references(); break;
            case PEOPLE: people(); break;
            case GIFTS: gifts(); break;
            case MONTHS: months(); break;
            case PRESS: press(); break;
            default: volumes(); break;
        }
    }

    private void tell(String name, int a, int b) {
        told.append(' ').append(x.told(name, a, b));
    }

    private void about(int what) {
        for (int i = 0; i < count; i++) {
            tell("about", i, what);
        }
    }

    private void questions() {
        tell("month", 0, 0);
        tell("struck", 0, 0);
        for (int i = 0; i < 2; i++) {
            tell("open", i, 0);
            tell("contradictions", i, 0);
            tell("readAnew", i, 0);
        }
        for (int i = 0; i <= ARTICLES; i++) {
            tell("at", i, 0);
        }
        for (int i = 0; i < CONTRIBUTORS; i++) {
            tell("errata", i, 0);
        }
        for (int i = 0; i < SUBJECTS; i++) {
            tell("synopsis", i, 0);
        }
    }

    private void lengths() {
        for (int what = 0; what < 5; what++) {
            about(what);
        }
    }

    private void draft() {
        tell("article", 5, 2);
        for (int i = 0; i <= ARTICLES; i++) {
            tell("at", i, 0);
        }
        about(1);
        tell("erase", 0, 0);
        for (int i = 0; i < 9; i++) {
            tell("sign", "- ab-c d ".charAt(i), 0);
        }
        tell("refer", 0, 0);
        tell("erase", 0, 0);
    }

    private void facts(int from, int to) {
        for (int i = from; i < to; i++) {
            for (int article = 0; article < count; article++) {
                tell("use", article, i);
            }
        }
        for (int i = from; i < to; i++) {
            tell("change", i, -77);
        }
    }

    private void rows() {
        for (int i = 0; i < count; i++) {
            tell("forbid", i, 1);
        }
        for (int i = 0; i < SUBJECTS; i++) {
            tell("under", i, -1);
        }
        tell("rule", 1, 0);
        for (int i = 0; i < ARTICLES; i++) {
            tell("at", i, 0);
        }
    }

    private void references() {
        tell("erase", 0, 0);
        for (int i = 0; i < count; i++) {
            tell("sign", 'q', 0);
            tell("refer", i, 0);
        }
        tell("erase", 0, 0);
    }

    private void people() {
        for (int i = 0; i < CONTRIBUTORS; i++) {
            for (int other = 0; other < i; other++) {
                tell("quarrel", i, other);
            }
        }
        for (int i = 0; i < CONTRIBUTORS; i++) {
            tell("die", i, 0);
        }
        about(3);
        about(4);
        for (int i = 0; i <= CONTRIBUTORS; i++) {
            tell("contributor", 9, 0);
        }
    }

    private void gifts() {
        for (int i = 0; i < CONTRIBUTORS; i++) {
            for (int article = 0; article < count; article++) {
                tell("give", article, i);
            }
        }
        about(4);
    }

    private void months() {
        for (int i = 0; i < 60; i++) {
            tell("pass", 1, 0);
        }
        tell("pass", 50, 0);
        about(4);
        tell("month", 0, 0);
    }

    private void press() {
        for (int volume = 0; volume < VOLUMES; volume++) {
            tell("print", volume, 0);
            questionsOfPrint();
        }
        tell("supplement", 0, 0);
        questionsOfPrint();
        for (int i = 0; i < FACTS; i++) {
            tell("change", i, -5);
        }
        tell("supplement", 0, 0);
        for (int i = 0; i < CONTRIBUTORS; i++) {
            tell("errata", i, 0);
        }
        for (int i = 0; i < SUBJECTS; i++) {
            tell("synopsis", i, 0);
        }
        about(0);
    }

    private void questionsOfPrint() {
        tell("struck", 0, 0);
        tell("readAnew", 0, 0);
        tell("readAnew", 1, 0);
    }

    private void volumes() {
        for (int i = 0; i < 26; i++) {
            tell("volume", 'a' + i, 7);
        }
        about(1);
        about(2);
        for (int volume = 0; volume < VOLUMES; volume++) {
            tell("print", volume, 0);
            questionsOfPrint();
        }
        tell("supplement", 0, 0);
        questionsOfPrint();
    }
}
