import java.util.EnumSet;
import java.util.Map;
import java.util.Set;
import java.util.TreeMap;
import java.util.function.Supplier;

/**
 * What each call leaves as it was. After calls that are taken, in states in which much has come about, all that can be
 * seen must be as in the second writing of the document; and nothing of it may differ from what was seen before but
 * what is named here by hand. Calls that lead there and back leave everything as it was.
 */
public final class EffectsTest extends Checks {
    private static final Probes.Kind QUESTIONS = Probes.Kind.QUESTIONS;
    private static final Probes.Kind LENGTHS = Probes.Kind.LENGTHS;
    private static final Probes.Kind DRAFT = Probes.Kind.DRAFT;
    private static final Probes.Kind FIRST_FACTS = Probes.Kind.FIRST_FACTS;
    private static final Probes.Kind LAST_FACTS = Probes.Kind.LAST_FACTS;
    private static final Probes.Kind ROWS = Probes.Kind.ROWS;
    private static final Probes.Kind REFERENCES = Probes.Kind.REFERENCES;
    private static final Probes.Kind PEOPLE = Probes.Kind.PEOPLE;
    private static final Probes.Kind GIFTS = Probes.Kind.GIFTS;
    private static final Probes.Kind MONTHS = Probes.Kind.MONTHS;
    private static final Probes.Kind PRESS = Probes.Kind.PRESS;
    private static final Probes.Kind VOLUMES = Probes.Kind.VOLUMES;

    private static final String WRITING = "writing";
    private static final String LIVELY = "lively";
    private static final String EVENTFUL = "eventful";
    private static final Map<String, String> TEXTS = new TreeMap<>(Map.of(WRITING, States.WRITING,
            LIVELY, States.LIVELY, EVENTFUL, States.EVENTFUL));

    public static void main(String[] args) {
        states();
        for (String state : TEXTS.keySet()) {
            drafts(state);
            people(state);
            questions(state);
        }
        articles();
        uses();
        rows();
        gifts();
        press();
        thereAndBack();
        end();
    }

    /** That the states are what they are made for. */
    private static void states() {
        answers(WRITING, "all 0 9", "2 1 0 2 1 2 0 0 1");
        answers(WRITING, "all 3 9; places 9", "0 0 -1 2 0 3 -1 -1 0 2 0 1 3 4 8 5 6 7");
        answers(EVENTFUL, "all 0 17", "3 3 3 3 3 3 2 3 0 2 1 1 1 1 0 0 0");
        answers(EVENTFUL, "all 3 17", "0 1 -1 1 3 3 3 3 -1 3 1 1 1 1 -1 -1 -1");
        answers(EVENTFUL, "struck; errata 0; errata 1; die 0", "3 1 1 " + STATE);
        answers(EVENTFUL, "open true; open false; contradictions true; contradictions false", "3 2 3 1");
        answers(EVENTFUL, "supplement; open true; contradictions true", "212 0 0");
    }

    private static void answers(String state, String calls, String due) {
        is(calls + ", " + state, String.join(" ", Script.run(Script.state(TEXTS.get(state)).get(), calls)), due);
    }

    /** The calls are taken, and nothing changes by them but, perhaps, what is named. */
    private static void only(String state, String calls, Probes.Kind... named) {
        String text = TEXTS.get(state);
        Map<Probes.Kind, String> before = Probes.byKind(Script.state(text));
        Map<Probes.Kind, String> got = Probes.byKind(Script.state(text + ";" + calls));
        Supplier<Answering> second = () -> Script.make(new Model(), text + ";" + calls);
        Map<Probes.Kind, String> due = Probes.byKind(second);
        Set<Probes.Kind> others = EnumSet.allOf(Probes.Kind.class);
        for (Probes.Kind kind : named) {
            others.remove(kind);
        }
        for (Probes.Kind kind : Probes.Kind.values()) {
            is("as in the second writing: " + kind + " after " + calls + ", " + state, got.get(kind), due.get(kind));
        }
        for (Probes.Kind kind : others) {
            is("as before: " + kind + " after " + calls + ", " + state, got.get(kind), before.get(kind));
        }
    }

    private static void drafts(String state) {
        only(state, "sign _", DRAFT, REFERENCES);
        only(state, "sign a", DRAFT, REFERENCES);
        only(state, "erase", DRAFT, REFERENCES);
        only(state, "erase; erase; sign -", DRAFT, REFERENCES);
    }

    private static void people(String state) {
        only(state, "quarrel 0 3", PEOPLE, GIFTS);
        only(state, "quarrel 2 1; quarrel 1 0; quarrel 3 1", PEOPLE, GIFTS);
        only(state, "contributor 7", QUESTIONS, PEOPLE, GIFTS, PRESS);
    }

    private static void questions(String state) {
        for (String question : new String[] {"month", "at 0", "about 0 2", "struck", "errata 1", "open true",
            "contradictions true", "readAnew true", "synopsis 0"}) {
            only(state, question);
        }
    }

    // An article more is seen everywhere, so there is nothing to name that it leaves as it was.
    private static void articles() {
        for (String state : TEXTS.keySet()) {
            only(state, "article 4 0", Probes.Kind.values());
            only(state, "article 9 3", Probes.Kind.values());
            only(state, "erase; make a 2 1", Probes.Kind.values());
            only(state, "erase; make z 2 9", Probes.Kind.values());
        }
    }

    private static void uses() {
        only(WRITING, "refer 7", DRAFT, REFERENCES, GIFTS, PRESS, VOLUMES);
        only(WRITING, "erase; link 4 -c; link 8 m", DRAFT, REFERENCES, GIFTS, PRESS, VOLUMES);
        only(LIVELY, "refer 8", DRAFT, REFERENCES, GIFTS, PRESS, VOLUMES);
        only(EVENTFUL, "refer 15", DRAFT, REFERENCES, GIFTS, PRESS, VOLUMES);
        only(EVENTFUL, "erase; link 6 b; link 14 m_n", DRAFT, REFERENCES, GIFTS, PRESS, VOLUMES);
        only(WRITING, "use 1 2", FIRST_FACTS, PRESS, VOLUMES);
        only(WRITING, "use 4 7; use 8 4", LAST_FACTS, PRESS, VOLUMES);
        only(LIVELY, "use 4 0", FIRST_FACTS, PRESS, VOLUMES);
        only(EVENTFUL, "use 9 2", FIRST_FACTS, PRESS, VOLUMES);
        only(EVENTFUL, "use 6 7", LAST_FACTS, PRESS, VOLUMES);
        only(WRITING, "change 0 9", FIRST_FACTS, PRESS, VOLUMES);
        only(LIVELY, "change 7 9", LAST_FACTS, PRESS, VOLUMES);
        only(EVENTFUL, "change 2 9", FIRST_FACTS, PRESS, VOLUMES);
        only(EVENTFUL, "change 4 9", LAST_FACTS, PRESS, VOLUMES);
    }

    private static void rows() {
        only(WRITING, "rule false", QUESTIONS, LENGTHS, DRAFT, ROWS, GIFTS, MONTHS, PRESS, VOLUMES);
        only(WRITING, "rule false; erase; sign z", QUESTIONS, LENGTHS, DRAFT, ROWS, REFERENCES, GIFTS, MONTHS, PRESS,
                VOLUMES);
        for (String state : TEXTS.keySet()) {
            only(state, "under 6 3", QUESTIONS, ROWS, PRESS);
            only(state, "under 9 0; under 4 NONE", QUESTIONS, ROWS, PRESS);
        }
        only(WRITING, "forbid 0 true", ROWS, PRESS, VOLUMES);
        only(WRITING, "forbid 1 false", ROWS, PRESS, VOLUMES);
        only(LIVELY, "forbid 3 true", ROWS, PRESS, VOLUMES);
        only(EVENTFUL, "forbid 9 true", ROWS, PRESS, VOLUMES);
        only(EVENTFUL, "forbid 6 false; forbid 10 false", ROWS, PRESS, VOLUMES);
        only(WRITING, "volume o 7", LENGTHS, DRAFT, GIFTS, PRESS, VOLUMES);
        only(LIVELY, "volume z 7", LENGTHS, DRAFT, GIFTS, PRESS, VOLUMES);
    }

    private static void gifts() {
        only(WRITING, "give 6 2", LENGTHS, PEOPLE, GIFTS, MONTHS, PRESS);
        only(WRITING, "give 6 0", LENGTHS, PEOPLE, GIFTS, MONTHS, PRESS);
        only(LIVELY, "give 6 0", LENGTHS, PEOPLE, GIFTS, MONTHS, PRESS);
        only(EVENTFUL, "give 14 1", LENGTHS, PEOPLE, GIFTS, MONTHS, PRESS);
        only(EVENTFUL, "give 14 3", LENGTHS, PEOPLE, GIFTS, MONTHS, PRESS);
        for (String state : TEXTS.keySet()) {
            only(state, "die 1", LENGTHS, PEOPLE, GIFTS, MONTHS, PRESS);
            only(state, "die 3", LENGTHS, PEOPLE, GIFTS, MONTHS, PRESS);
            only(state, "pass 1", QUESTIONS, LENGTHS, PEOPLE, GIFTS, MONTHS, PRESS, VOLUMES);
            only(state, "pass 7", QUESTIONS, LENGTHS, PEOPLE, GIFTS, MONTHS, PRESS, VOLUMES);
            only(state, "pass 50", QUESTIONS, LENGTHS, PEOPLE, GIFTS, MONTHS, PRESS, VOLUMES);
        }
        only(WRITING, "die 0", LENGTHS, PEOPLE, GIFTS, MONTHS, PRESS);
        only(EVENTFUL, "die 2", LENGTHS, PEOPLE, GIFTS, MONTHS, PRESS);
    }

    private static void press() {
        Probes.Kind[] printed = {QUESTIONS, LENGTHS, DRAFT, FIRST_FACTS, LAST_FACTS, ROWS, REFERENCES, GIFTS, PRESS,
            VOLUMES};
        Probes.Kind[] added = {QUESTIONS, LENGTHS, DRAFT, FIRST_FACTS, LAST_FACTS, ROWS, REFERENCES, PRESS, VOLUMES};
        only(WRITING, "print 0", printed);
        only(WRITING, "print 0; print 1", printed);
        only(LIVELY, "print 1", printed);
        only(EVENTFUL, "print 3", printed);
        only(LIVELY, "supplement", added);
        only(EVENTFUL, "supplement", added);
        only(EVENTFUL, "supplement; supplement", added);
    }

    private static void thereAndBack() {
        only(WRITING, "rule true");
        only(WRITING, "rule false; rule true");
        only(WRITING, "sign a; erase; sign g; sign -; sign h");
        only(EVENTFUL, "sign a; sign _; erase; sign r; sign a");
        for (String state : TEXTS.keySet()) {
            only(state, "under 9 8; under 9 7; under 9 " + (state.equals(WRITING) ? "NONE" : "4"));
            only(state, "change 5 1; change 5 MIN; change 5 0");
        }
        only(WRITING, "change 0 1; change 0 6");
        only(LIVELY, "change 0 1; change 0 8");
        only(EVENTFUL, "change 0 1; change 0 9; change 3 5; change 3 4");
        only(WRITING, "forbid 0 true; forbid 0 false; forbid 1 false; forbid 1 true");
        only(EVENTFUL, "forbid 9 true; forbid 9 false; forbid 6 false; forbid 6 true");
        only(WRITING, "quarrel 1 0; quarrel 0 1; quarrel 2 1");
        only(EVENTFUL, "quarrel 2 1; quarrel 1 2");
        only(WRITING, "use 0 7; use 3 3; use 0 0");
        only(EVENTFUL, "use 6 3; use 9 0");
    }
}
