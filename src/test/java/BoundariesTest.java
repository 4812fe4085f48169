import java.util.List;
import java.util.TreeSet;
import java.util.function.Supplier;

/**
 * Sentence by sentence of the document, what it says of a boundary: the last that is allowed and the first that is
 * not, at both ends; the empty and the full; and each refused call: what it throws, alone and where several apply.
 * After every refused call, and every question, the object must answer as one that was never called so. What is due
 * is written here by hand; the second writing of the document must answer the same.
 */
public final class BoundariesTest extends Checks {
    private static final String[] INT_ENDS = {"MIN", "-2147483647", "MAX", "2147483646", "256", "65536"};
    private static final String SIX_CONTRIBUTORS = "contributor 9;".repeat(6);
    private static final String ALL_ARTICLES = "make a 0 1;".repeat(24);

    public static void main(String[] args) {
        beginsEmpty();
        signs();
        draftOfEight();
        erasing();
        ruling();
        orderByLetters();
        orderByWords();
        articles();
        articlesRefused();
        subjects();
        references();
        referencesRefused();
        facts();
        factsRefused();
        forbidding();
        volumes();
        volumesRefused();
        belonging();
        shares();
        contributors();
        quarrels();
        giving();
        givingAmongEnemies();
        writing();
        dying();
        passing();
        printing();
        referencesInPrint();
        supplements();
        errataOfFacts();
        errataOfPromises();
        forbiddenInPrint();
        places();
        questionsAbout();
        owners();
        openOnes();
        contradictions();
        synopses();
        lastCall();
        end();
    }

    /** After the state, the calls must answer what is due: their answers with blanks between them. */
    private static List<String> answered(String sentence, String state, String calls, Object due) {
        List<String> got = Script.run(Script.state(state).get(), calls);
        String told = sentence + " | " + state + " | " + calls;
        is(told, String.join(" ", got), String.valueOf(due));
        is("second writing: " + told, String.join(" ", Script.run(Script.make(new Model(), state), calls)),
                String.valueOf(due));
        return got;
    }

    /** The same; and if the calls are refused, or questions alone, the object must then answer as one without them. */
    private static void due(String sentence, String state, String calls, Object due) {
        List<String> got = answered(sentence, state, calls, due);
        if (isHarmless(calls, got)) {
            Supplier<Calls> after = () -> {
                Calls y = Script.state(state).get();
                Script.run(y, calls);
                return y;
            };
            is("as before: " + sentence + " | " + state + " | " + calls, Probes.afterwards(after),
                    Probes.afterwards(Script.state(state)));
        }
    }

    /** One call, which must throw whatever stands in one of its places (written ?). */
    private static void refused(String sentence, String state, String call, String exception, String... wrong) {
        for (String one : wrong) {
            due(sentence, state, call.replace("?", one), exception);
        }
    }

    private static boolean isHarmless(String calls, List<String> answers) {
        String[] statements = calls.split(";");
        boolean isHarmless = statements.length == answers.size();
        for (int i = 0; i < answers.size() && isHarmless; i++) {
            String name = statements[i].trim().split(" ")[0];
            boolean isOneCall = Calls.NAMES.contains(name);
            isHarmless = RefusalsTest.QUESTIONS.contains(name) || name.equals("all") || name.equals("places")
                    || isOneCall && answers.get(i).startsWith("java");
        }
        return isHarmless;
    }

    // ---- Promise 1

    private static void beginsEmpty() {
        due("begins in the month 0", "", "month", 0);
        due("without articles", "", "at 0; at MAX", "-1 -1");
        refused("without articles", "", "about ? 0", BOUNDS, "0", "-1", "23", "24");
        due("without a draft", "", "erase", 0);
        due("without a draft", "", "sign a", 1);
        refused("without contributors", "", "errata ?", BOUNDS, "0", "-1", "5", "6");
        refused("without volumes", "", "print ?", BOUNDS, "0", "-1", "3", "4");
        due("without a printed volume", "", "supplement", STATE);
        due("without all else", "", "struck; open true; open false; contradictions true; contradictions false",
                "0 0 0 0 0");
        due("without all else", "", "readAnew true; readAnew false", "0 0");
        for (int i = 0; i < 10; i++) {
            due("without all else", "", "synopsis " + i, 0);
            due("no subject is under another one", "", "under " + i + " NONE", -1);
        }
        for (int i = 0; i < 8; i++) {
            due("facts have a value, 0 at first", "", "change " + i + " 1", 0);
        }
        due("headwords by their letters alone", "make b 0 0; make a-c 0 0; make ab 0 0", "places 3", "2 1 0");
        due("headwords by their letters alone", "", "rule true", 0);
    }

    // ---- Promises 2 and 3

    private static void signs() {
        StringBuilder taken = new StringBuilder();
        TreeSet<String> answers = new TreeSet<>();
        for (int sign = 0; sign <= Character.MAX_VALUE; sign++) {
            String answer = new Calls(new CircleOfLeaves()).told("sign", sign, 0);
            answers.add(answer);
            if (answer.equals("1")) {
                taken.append((char) sign);
            }
        }
        is("a to z, a blank or a hyphen, of all chars", taken.toString(), " -abcdefghijklmnopqrstuvwxyz");
        is("what all chars answer", answers.toString(), "[1, " + ARGUMENT + "]");
        refused("IllegalArgumentException if sign is none of these: beside a and z", "", "sign ?", ARGUMENT,
                "#96", "#123");
        refused("IllegalArgumentException if sign is none of these: beside the blank", "", "sign ?", ARGUMENT,
                "#31", "#33");
        refused("IllegalArgumentException if sign is none of these: beside the hyphen", "", "sign ?", ARGUMENT,
                "#44", "#46");
        refused("IllegalArgumentException if sign is none of these: capitals", "", "sign ?", ARGUMENT, "A", "Z");
        refused("IllegalArgumentException if sign is none of these: digits, a tab, other dashes and blanks",
                "draft a-b",
                "sign ?", ARGUMENT, "#48", "#57", "#9", "#10", "#95", "#160", "#173", "#8208", "#8211", "#12288");
        refused("IllegalArgumentException if sign is none of these: letters of other scripts", "draft a", "sign ?",
                ARGUMENT, "#223", "#228", "#353", "#378", "#945", "#65345");
        refused("IllegalArgumentException if sign is none of these: the ends of char", "draft a", "sign ?", ARGUMENT,
                "#0", "#65535");
        due("the letters at the ends", "", "sign a; sign z", "1 2");
        due("a blank, a hyphen", "", "sign _; sign -", "1 2");
    }

    private static void draftOfEight() {
        due("returns how many it has then", "", "sign a; sign _; sign -; sign a; sign z; sign _; sign b; sign -",
                "1 2 3 4 5 6 7 8");
        for (String sign : new String[] {"a", "z", "_", "-"}) {
            due("up to 8 signs: the eighth", "draft ab-_cde", "sign " + sign, 8);
            due("IllegalStateException if it has 8", "draft ab-_cdef", "sign " + sign, STATE);
        }
        due("IllegalStateException if it has 8 without a letter", "draft __--__--", "sign a", STATE);
        due("the wrong sign is named first, with 8", "draft abcdefgh", "sign A; sign #0; sign #65535",
                ARGUMENT + " " + ARGUMENT + " " + ARGUMENT);
        due("a headword of 8 letters", "make abcdefgh 0 0; make abcdefgg 0 0", "places 2", "1 0");
        due("8 after a refused ninth", "draft abcdefgh", "sign a; erase", STATE + " 8");
    }

    private static void erasing() {
        due("empties the draft: the empty one", "", "erase; erase", "0 0");
        due("returns how many signs it had: one", "draft -", "erase; erase", "1 0");
        due("returns how many signs it had: 8", "draft abcd-f_h", "erase; erase; sign a", "8 0 1");
        due("empties the draft, its letters too", "draft ab; erase; draft -", "article 0 0", STATE);
        due("empties the draft, its letters too", "draft zb; erase; draft a; article 0 0; make y 0 0; volume a 5",
                "about 0 1", 0);
        due("empties the draft: nothing of it is left", "draft abz; erase; make ab 0 0; make abc 0 0; make ab 0 0",
                "places 3", "0 2 1");
        due("empties the draft: nothing of it is left", "make abc 0 0; draft abz; erase; make ab 0 0; draft aba; erase;"
                + "make ab 0 0; rule true", "places 3", "1 2 0");
        due("an article takes the draft, which is empty then", "make abc 0 0", "erase; article 0 0", "0 " + STATE);
        due("a reference takes the draft, which is empty then", "make a 0 0; link 0 abc", "erase; refer 0",
                "0 " + STATE);
    }

    // ---- Promise 4

    private static void ruling() {
        due("returns what was ruled", "", "rule false; rule true; rule true; rule false; rule false", "0 0 1 1 0");
        due("a planned volume does not matter", "volume a 1; volume z 99", "rule true; rule false", "0 1");
        due("IllegalStateException if a volume is printed", "volume a 1; print 0", "rule true; rule false",
                STATE + " " + STATE);
        due("IllegalStateException if a volume is printed, of two", "volume a 1; volume b 1; rule true; print 0",
                "rule true; rule false", STATE + " " + STATE);
        due("what was ruled stays", "make a_z 0 0; make ab 0 0; volume z 1; rule true; print 0", "rule false; places 2",
                STATE + " 0 1");
        due("the draft stays", "draft a-b", "rule true; rule false; erase", "0 1 3");
        due("columns as they are when it is begun, by the rule of then", "volume z 3; contributor 1; make aa 0 1;"
                + "make a_b 0 1; give 0 0; give 1 0", "all 2 2; rule true; all 2 2; all 4 2; pass 9; all 4 2",
                "2 1 0 1 2 2 -1 2 2 4");
    }

    // ---- Terms: the order

    private static void orderByLetters() {
        due("by their letters alone", "make b 0 0; make -_a- 0 0; make aa 0 0", "places 3", "1 2 0");
        due("one that is the beginning of another one comes first", "make abcdefgh 0 0; make abcdefg 0 0; make a 0 0",
                "places 3", "2 1 0");
        due("one that is the beginning comes first, whatever else it has", "make ab 0 0; make a------- 0 0",
                "places 2", "1 0");
        due("those that are the same by their numbers", "make a_b 0 0; make ab 0 0; make -a-b 0 0; make ab-- 0 0",
                "places 4", "0 1 2 3");
        due("the letters at the ends", "make z 0 0; make az 0 0; make aa 0 0; make za 0 0; make a 0 0", "places 5",
                "4 2 1 0 3");
        due("the last of 8 letters", "make aaaaaaab 0 0; make aaaaaaaa 0 0", "places 2", "1 0");
    }

    private static void orderByWords() {
        String rule = "rule true;";
        due("a blank is ahead of all letters", rule + "make aa 0 0; make a_z 0 0", "places 2", "1 0");
        due("a hyphen is ahead of all letters", rule + "make aa 0 0; make a-z 0 0", "places 2", "1 0");
        due("which are alike", rule + "make a-b 0 0; make a_b 0 0; make a-b 0 0; make a_a 0 0", "places 4", "3 0 1 2");
        due("several of them count as told", rule + "make a_b 0 0; make a__b 0 0; make a--a 0 0; make a-_-z 0 0",
                "places 4", "3 2 1 0");
        due("also in front", rule + "make a 0 0; make -z 0 0; make _-z 0 0; make _y 0 0", "places 4", "2 3 1 0");
        due("also at the end", rule + "make aa 0 0; make a_ 0 0; make a__ 0 0; make a 0 0; make a-a 0 0", "places 5",
                "3 1 2 4 0");
        due("one that is the beginning of another one comes first", rule + "make ab-_cdef 0 0; make ab-_cde 0 0",
                "places 2", "1 0");
        due("the last of 8 signs", rule + "make a------b 0 0; make a_______ 0 0; make a------a 0 0", "places 3",
                "1 2 0");
        due("alike by the rule of now", "make ab 0 0; make a_b 0 0; rule true", "places 2", "1 0");
        due("alike by the rule of now", "rule true; make ab 0 0; make a_b 0 0; rule false", "places 2", "0 1");
    }

    // ---- Promise 5

    private static void articles() {
        due("its number, from 0", "draft a", "article 0 0", 0);
        due("subject 0 to 9, worth 0 to 9: the ends", "", "make a 0 0; make a 0 9; make a 9 0; make a 9 9", "0 1 2 3");
        due("at most 24: the last one", "make a 0 0;".repeat(23) + "draft b", "article 9 9", 23);
        due("IllegalStateException if there are 24", ALL_ARTICLES + "draft b", "article 9 9", STATE);
        due("the draft of the twenty-fifth stays", ALL_ARTICLES + "draft b", "article 0 0; erase", STATE + " 1");
        due("at least one letter: a letter alone", "draft a", "article 0 0; erase", "0 0");
        due("at least one letter: behind seven others", "draft -_-_-_-z", "article 0 0", 0);
        due("at least one letter: ahead of seven others", "draft a_______", "article 0 0", 0);
        due("IllegalStateException if the draft has no letter: the empty one", "", "article 0 0", STATE);
        refused("IllegalStateException if the draft has no letter", "draft _", "article 0 ?", STATE, "0", "9");
        refused("IllegalStateException if the draft has no letter", "draft -", "article ? 0", STATE, "0", "9");
        due("IllegalStateException if the draft has no letter: eight others", "draft --__--__", "article 0 0", STATE);
        due("without any worth it is blind, and needs no text", "make a 0 0; make a 0 1; volume z 9", "print 0", 1);
    }

    private static void articlesRefused() {
        refused("IndexOutOfBoundsException: subject", "draft a", "article ? 0", BOUNDS, "-1", "10");
        refused("IndexOutOfBoundsException: subject, the ends of int", "draft a", "article ? 0", BOUNDS, INT_ENDS);
        refused("IllegalArgumentException if worth is out of range", "draft a", "article 0 ?", ARGUMENT, "-1", "10");
        refused("IllegalArgumentException if worth is out of range, the ends of int", "draft a", "article 9 ?",
                ARGUMENT, INT_ENDS);
        refused("subject is named ahead of worth", "draft a", "article ? 10", BOUNDS, "-1", "10", "MIN", "MAX");
        refused("subject is named ahead of worth", "draft a", "article -1 ?", BOUNDS, "-1", "10", "MIN", "MAX");
        refused("subject is named ahead of the draft", "", "article ? 0", BOUNDS, "-1", "10");
        refused("worth is named ahead of the draft", "draft -", "article 0 ?", ARGUMENT, "-1", "10");
        refused("subject is named ahead of 24", ALL_ARTICLES + "draft b", "article ? 0", BOUNDS, "-1", "10");
        refused("worth is named ahead of 24", ALL_ARTICLES + "draft b", "article 0 ?", ARGUMENT, "-1", "10");
        due("subject, of all three", ALL_ARTICLES, "article 10 10", BOUNDS);
        due("24 and no letter", ALL_ARTICLES + "draft -", "article 0 0", STATE);
    }

    // ---- Promise 6

    private static void subjects() {
        due("returns under which it was", "", "under 5 3; under 5 4; under 5 NONE; under 5 0", "-1 3 4 -1");
        due("above: below subject, the nearest", "", "under 1 0; under 9 8; under 2 1", "-1 -1 -1");
        due("above: below subject, the farthest", "", "under 9 0", -1);
        due("above: NONE, of the subjects at the ends", "", "under 0 NONE; under 9 NONE", "-1 -1");
        refused("IllegalArgumentException if above is not below subject", "", "under 5 ?", ARGUMENT, "5", "6", "9");
        refused("IllegalArgumentException if above is not below subject: 0", "", "under 0 ?", ARGUMENT, "0", "1", "9");
        due("IllegalArgumentException if above is not below subject: 9", "", "under 9 9", ARGUMENT);
        due("IllegalArgumentException if above is not below subject: 8", "under 8 7", "under 8 9", ARGUMENT);
        refused("IndexOutOfBoundsException: subject", "", "under ? 0", BOUNDS, "-1", "10");
        refused("IndexOutOfBoundsException: subject, the ends of int", "", "under ? NONE", BOUNDS, INT_ENDS);
        refused("IndexOutOfBoundsException if above is neither a subject nor NONE", "under 5 1", "under 5 ?", BOUNDS,
                "-2", "10");
        refused("IndexOutOfBoundsException if above is neither a subject nor NONE, the ends of int", "", "under 9 ?",
                BOUNDS, INT_ENDS);
        refused("no subject above is named ahead of not below", "", "under 0 ?", BOUNDS, "10", "MAX");
        refused("no such subject is named ahead of not below", "", "under ? 5", BOUNDS, "-1", "MIN", "-2");
        due("no such subject, twice", "", "under 10 10; under -1 -1; under -1 -2",
                BOUNDS + " " + BOUNDS + " " + BOUNDS);
    }

    // ---- Promise 7

    private static void references() {
        due("returns how many references it has then", "make a 0 0", "link 0 b; link 0 b; link 0 a; link 0 -b",
                "1 2 3 4");
        due("at most 4 references, of each article", "make a 0 0; make a 0 1;" + "link 0 b;".repeat(4),
                "link 1 b; link 1 b; link 1 b; link 1 b", "1 2 3 4");
        due("IllegalStateException if it has 4", "make a 0 0;" + "link 0 b;".repeat(4) + "draft b", "refer 0", STATE);
        due("the draft of the fifth stays", "make a 0 0;" + "link 0 b;".repeat(4) + "draft bc", "refer 0; erase",
                STATE + " 2");
        due("the last article", ALL_ARTICLES + "draft b", "refer 23", 1);
        due("at least one letter: behind seven others", "make a 0 0; draft -_-_-_-z", "refer 0", 1);
        due("a given, a written one refers", "volume z 9; contributor 9; make a 0 1; make b 0 1; give 0 0; pass 1;"
                + "give 1 0", "link 0 x; link 1 x", "1 1");
        due("all references of all articles", States.FULL, "refer 0; refer 23", STATE + " " + STATE);
    }

    private static void referencesRefused() {
        refused("IndexOutOfBoundsException: no such article", "make a 0 0; draft b", "refer ?", BOUNDS, "-1", "1",
                "24");
        refused("IndexOutOfBoundsException: no such article, the ends of int", "make a 0 0; draft b", "refer ?", BOUNDS,
                INT_ENDS);
        due("IndexOutOfBoundsException: there are no articles", "draft b", "refer 0", BOUNDS);
        due("IndexOutOfBoundsException: there are 24", ALL_ARTICLES + "draft b", "refer 24", BOUNDS);
        due("IllegalStateException if it is printed", "volume z 9; make a 0 0; print 0; draft b", "refer 0", STATE);
        due("IllegalStateException if the draft has no letter: the empty one", "make a 0 0", "refer 0", STATE);
        due("IllegalStateException if the draft has no letter", "make a 0 0; draft _-_-_-_-", "refer 0", STATE);
        due("no such article is named ahead of no letter", "make a 0 0; draft -", "refer 1; refer -1",
                BOUNDS + " " + BOUNDS);
        due("printed, 4, and no letter", "volume z 9; make a 0 0;" + "link 0 b;".repeat(4) + "print 0", "refer 0",
                STATE);
    }

    // ---- Promises 8 and 9

    private static void facts() {
        due("returns whether it did not yet", "make a 0 1", "use 0 0; use 0 0; use 0 7; use 0 7; use 0 3",
                "1 0 1 0 1");
        due("facts 0 to 7, all of one article", "make a 0 9",
                "use 0 0; use 0 1; use 0 2; use 0 3; use 0 4; use 0 5; use 0 6; use 0 7", "1 1 1 1 1 1 1 1");
        due("one article's facts are not another's", "make a 0 1; make a 0 1; use 0 5", "use 1 5", 1);
        due("the last article", ALL_ARTICLES, "use 23 7", 1);
        due("a worth of 1 is not blind", "make a 0 1", "use 0 0", 1);
        due("a given, a written one uses", "volume z 9; contributor 9; make a 0 1; make b 0 1; give 0 0; pass 1;"
                + "give 1 0", "use 0 7; use 1 7", "1 1");
        due("the value before", "", "change 0 MAX; change 0 MIN; change 0 0; change 0 -1; change 0 5",
                "0 2147483647 -2147483648 0 -1");
        due("the facts at the ends", "", "change 7 1; change 7 2; change 0 3; change 0 4", "0 1 0 3");
        due("changed to what it is", "change 4 9", "change 4 9; change 4 9", "9 9");
    }

    private static void factsRefused() {
        refused("IndexOutOfBoundsException: no such fact", "change 0 5; change 7 5", "change ? 3", BOUNDS, "-1", "8");
        refused("IndexOutOfBoundsException: no such fact, the ends of int", "", "change ? 0", BOUNDS, INT_ENDS);
        refused("IndexOutOfBoundsException of the fact", "make a 0 1", "use 0 ?", BOUNDS, "-1", "8");
        refused("IndexOutOfBoundsException of the fact, the ends of int", "make a 0 1", "use 0 ?", BOUNDS, INT_ENDS);
        refused("IndexOutOfBoundsException of the article", "make a 0 1", "use ? 0", BOUNDS, "-1", "1", "24");
        refused("IndexOutOfBoundsException of the article, the ends of int", "make a 0 1", "use ? 7", BOUNDS, INT_ENDS);
        due("IndexOutOfBoundsException of both", "make a 0 1", "use 1 8; use -1 -1", BOUNDS + " " + BOUNDS);
        due("IndexOutOfBoundsException: there are no articles", "", "use 0 0", BOUNDS);
        due("IndexOutOfBoundsException: there are 24", ALL_ARTICLES, "use 24 0", BOUNDS);
        due("IllegalStateException if it is blind", "make a 0 0", "use 0 0; use 0 7", STATE + " " + STATE);
        String printed = "volume z 9; contributor 9; make a 0 1; use 0 3; give 0 0; pass 1; print 0;";
        due("IllegalStateException if it is printed", printed, "use 0 0; use 0 3", STATE + " " + STATE);
        due("IllegalStateException if it is printed, and blind", "volume z 9; make a 0 0; print 0", "use 0 0", STATE);
        refused("no such fact is named ahead of blind", "make a 0 0", "use 0 ?", BOUNDS, "-1", "8");
        refused("no such fact is named ahead of printed", printed, "use 0 ?", BOUNDS, "-1", "8");
    }

    // ---- Promise 10

    private static void forbidding() {
        due("returns whether it was", "make a 0 0",
                "forbid 0 false; forbid 0 true; forbid 0 true; forbid 0 false; forbid 0 false", "0 0 1 1 0");
        due("the last article", ALL_ARTICLES, "forbid 23 true; forbid 22 true; forbid 23 true", "0 0 1");
        refused("IndexOutOfBoundsException", "make a 0 0", "forbid ? true", BOUNDS, "-1", "1", "24");
        refused("IndexOutOfBoundsException, the ends of int", "make a 0 0", "forbid ? false", BOUNDS, INT_ENDS);
        due("IndexOutOfBoundsException: there are no articles", "", "forbid 0 true", BOUNDS);
        due("IndexOutOfBoundsException: there are 24", ALL_ARTICLES, "forbid 24 true", BOUNDS);
        String printed = "volume z 9; make a 0 0; make b 0 0; make c 0 1; forbid 1 true; print 0;";
        due("IllegalStateException if it is printed", printed, "forbid 0 true; forbid 0 false", STATE + " " + STATE);
        due("IllegalStateException if it is printed, a forbidden one", printed, "forbid 1 true; forbid 1 false",
                STATE + " " + STATE);
        due("one that was left out is not printed", printed, "forbid 2 true; forbid 2 false", "0 1");
    }

    // ---- Promise 11, and the volumes and lengths of Terms

    private static void volumes() {
        StringBuilder taken = new StringBuilder();
        TreeSet<String> answers = new TreeSet<>();
        for (int last = 0; last <= Character.MAX_VALUE; last++) {
            String answer = new Calls(new CircleOfLeaves()).told("volume", last, 1);
            answers.add(answer);
            if (answer.equals("0")) {
                taken.append((char) last);
            }
        }
        is("last: its last letter, of all chars", taken.toString(), "abcdefghijklmnopqrstuvwxyz");
        is("what all chars answer", answers.toString(), "[0, " + ARGUMENT + "]");
        due("its number, at most 4", "", "volume a 1; volume b 99; volume y 1; volume z 99", "0 1 2 3");
        due("behind that of the one ahead: the next letter", "volume a 1", "volume b 1", 1);
        due("behind that of the one ahead: the last letter", "volume y 1", "volume z 1", 1);
        due("columns: 1", "volume z 1; make a 0 1", "about 0 2", 1);
        due("columns: 99", "volume z 99; make a 0 1", "about 0 2", 99);
        due("planned behind a printed one", "volume a 1; print 0", "volume b 1; print 1", "1 0");
        due("IllegalStateException if there are 4", "volume a 1; volume b 1; volume c 1; volume d 1",
                "volume e 1; volume z 99", STATE + " " + STATE);
        due("IllegalStateException if there are 4, all printed",
                "volume a 1; volume b 1; volume c 1; volume d 1; print 0; print 1; print 2; print 3", "volume e 1",
                STATE);
    }

    private static void volumesRefused() {
        refused("IllegalArgumentException if last is no letter", "volume a 1", "volume ? 5", ARGUMENT, "#96", "#123",
                "A", "Z", "_", "-", "#0", "#65535", "#48", "#353");
        due("IllegalArgumentException if last is not behind that of the volume ahead", "volume m 5",
                "volume m 5; volume l 5; volume a 5", ARGUMENT + " " + ARGUMENT + " " + ARGUMENT);
        due("IllegalArgumentException if last is not behind that of the volume ahead, of two", "volume a 5; volume m 5",
                "volume m 5; volume b 5; volume n 5", ARGUMENT + " " + ARGUMENT + " 2");
        due("nothing is behind z", "volume z 5", "volume z 5; volume a 5", ARGUMENT + " " + ARGUMENT);
        refused("IllegalArgumentException if columns is out of range", "", "volume a ?", ARGUMENT, "0", "100", "-1");
        refused("IllegalArgumentException if columns is out of range, the ends of int", "", "volume z ?", ARGUMENT,
                INT_ENDS);
        refused("last and columns", "volume m 5", "volume ? 0", ARGUMENT, "#96", "m", "a");
        String four = "volume a 1; volume b 1; volume c 1; volume m 1;";
        refused("columns are named ahead of 4", four, "volume z ?", ARGUMENT, "0", "100", "MIN", "MAX");
        refused("last is named ahead of 4", four, "volume ? 5", ARGUMENT, "m", "l", "a", "A", "#123", "_", "#65535");
        due("a refused volume is none", four + "make z 0 1", "volume n 5; about 0 1", STATE + " -1");
    }

    private static void belonging() {
        String two = "volume b 9; volume m 9;";
        due("at its headword's first letter", two + "make b 0 1; make m 0 1", "all 1 2", "0 1");
        due("behind its headword's first letter", two + "make a 0 1; make l 0 1", "all 1 2", "0 1");
        due("the first such volume", two + "make c 0 1; make az 0 1; make bz 0 1", "all 1 3", "1 0 0");
        due("or to none as yet", two + "make n 0 1; make z 0 1", "all 1 2; all 2 2", "-1 -1 0 0");
        due("to none without volumes", "make a 0 1; make z 0 0", "all 1 2; all 2 2", "-1 -1 0 0");
        due("as yet", two + "make n 0 1; make z 0 1; volume y 9", "all 1 2", "2 -1");
        due("the first letter, not the first sign", two + "make -a 0 1; make _n 0 1; make -_-m 0 1; rule true",
                "all 1 3", "0 -1 1");
        due("all letters", "volume z 9; make z 0 1; make a 0 1", "all 1 2", "0 0");
        due("all letters but a", "volume a 9; volume z 9; make z 0 1; make b 0 1; make a 0 1", "all 1 3", "1 1 0");
        due("a printed volume", "volume a 9; print 0; make a 0 1", "about 0 1", 0);
    }

    private static void shares() {
        due("rounded down, what is left to those that come first", "volume z 1; make a 0 1; make b 0 1", "all 2 2",
                "1 0");
        due("those that come first, not those with low numbers", "volume z 1; make b 0 1; make a 0 1", "all 2 2",
                "0 1");
        due("those that are the same come by their numbers", "volume z 1; make a 0 1; make -a 0 1", "all 2 2", "1 0");
        due("alike remainders of unlike worths", "volume z 2; make a 0 1; make b 0 3", "all 2 2", "1 1");
        due("alike remainders of unlike worths", "volume z 2; make b 0 1; make a 0 3", "all 2 2", "0 2");
        due("the greatest remainder", "volume z 5; make a 0 1; make b 0 2", "all 2 2", "2 3");
        due("the greatest remainder, behind", "volume z 4; make a 0 1; make b 0 2", "all 2 2", "1 3");
        due("nothing is left", "volume z 6; make a 0 1; make b 0 2; make c 0 3", "all 2 3", "1 2 3");
        due("one to each: one left", "volume z 4; make a 0 1; make b 0 1; make c 0 1", "all 2 3", "2 1 1");
        due("one to each: all but one", "volume z 5; make a 0 1; make b 0 1; make c 0 1", "all 2 3", "2 2 1");
        due("fewer columns than articles", "volume z 2; make a 0 1; make b 0 1; make c 0 1", "all 2 3", "1 1 0");
        due("a blind one gets nothing", "volume z 5; make a 0 0; make b 0 1; make c 0 1; make aa 0 0", "all 2 4",
                "0 3 2 0");
        due("nor where all are blind", "volume z 99; make a 0 0; make b 0 0", "all 2 2", "0 0");
        due("worths at the ends", "volume z 99; make a 0 9; make b 0 1", "all 2 2", "89 10");
        due("all of the budget", "volume z 99; make a 0 9; make b 0 0", "all 2 2", "99 0");
        due("of all worths there, forbidden ones with them", "volume z 10; make a 0 1; make b 0 1; forbid 0 true",
                "all 2 2", "5 5");
        due("of all worths there, those that were left out with them", "volume z 10; make a 0 1; make b 0 1; print 0",
                "all 2 2", "5 5");
        due("of all worths there", "volume a 10; volume y 7; make a 0 5; make b 0 5; make z 0 5", "all 2 3", "10 7 0");
        due("of what is left there",
                "volume b 1; volume y 1; make a 0 1; make aa 0 1; make b 0 1; make c 0 1; make d 0 1;"
                + "make z 0 1", "all 2 6", "1 0 0 1 0 0");
        due("24 articles, 99 columns", "volume z 99;" + ALL_ARTICLES, "all 2 24", "5 5 5" + " 4".repeat(21));
        due("24 articles, 1 column", "volume z 1;" + ALL_ARTICLES, "all 2 24", "1" + " 0".repeat(23));
        due("24 articles, 23 columns", "volume z 23;" + ALL_ARTICLES, "all 2 24", "1 ".repeat(23) + "0");
        due("those that come first by letters", "volume z 1; make aa 0 1; make a-b 0 1", "all 2 2", "1 0");
        due("those that come first by words", "volume z 1; make aa 0 1; make a-b 0 1; rule true", "all 2 2", "0 1");
        due("by the articles of now, also for those that are printed",
                "volume z 10; contributor 9; make b 0 1; give 0 0; pass 2; print 0; make a 0 2", "all 2 2", "3 7");
    }

    // ---- Promises 12 and 13

    private static void contributors() {
        due("the number, at most 6", "", "contributor 1; contributor 9; contributor 5; contributor 1; contributor 9;"
                + "contributor 2", "0 1 2 3 4 5");
        due("IllegalStateException if there are 6", SIX_CONTRIBUTORS, "contributor 1; contributor 9",
                STATE + " " + STATE);
        due("IllegalStateException if there are 6, dead ones with them", SIX_CONTRIBUTORS + "die 0; die 5",
                "contributor 1", STATE);
        due("made when all is printed", "volume a 1; print 0; contributor 1", "contributor 9; give 0 0",
                "1 " + BOUNDS);
        refused("IllegalArgumentException if pace is out of range", "contributor 1", "contributor ?", ARGUMENT, "0",
                "10", "-1");
        refused("IllegalArgumentException if pace is out of range, the ends of int", "", "contributor ?", ARGUMENT,
                INT_ENDS);
        refused("pace is named ahead of 6", SIX_CONTRIBUTORS, "contributor ?", ARGUMENT, "0", "10", "MIN", "MAX");
        due("pace 1, 99 columns", "volume z 99; contributor 1; make a 0 1; give 0 0", "about 0 4", 99);
        due("pace 9, 99 columns", "volume z 99; contributor 9; make a 0 1; give 0 0", "about 0 4", 11);
        due("the last contributor's pace", "volume z 99;" + "contributor 1;".repeat(5) + "contributor 2; make a 0 1;"
                + "give 0 5", "about 0 4", 50);
    }

    private static void quarrels() {
        String three = "contributor 1; contributor 1; contributor 1;";
        due("returns whether they had", three, "quarrel 0 1; quarrel 0 1; quarrel 1 0; quarrel 2 0; quarrel 0 2",
                "0 1 1 0 1");
        due("two contributors, not others", three + "quarrel 0 1; quarrel 0 2", "quarrel 1 2; quarrel 2 1", "0 1");
        due("the ends", SIX_CONTRIBUTORS, "quarrel 0 5; quarrel 5 0; quarrel 4 5", "0 1 0");
        due("dead ones", three + "die 0; die 1", "quarrel 0 1; quarrel 1 0; quarrel 2 1", "0 1 0");
        refused("IllegalArgumentException if both are the same", three, "quarrel ? ?", ARGUMENT, "0", "1", "2");
        refused("IllegalArgumentException if both are the same", SIX_CONTRIBUTORS, "quarrel ? ?", ARGUMENT, "0", "5");
        refused("IndexOutOfBoundsException of the one", three, "quarrel ? 0", BOUNDS, "-1", "3", "5", "6");
        refused("IndexOutOfBoundsException of the one, the ends of int", three, "quarrel ? 2", BOUNDS, INT_ENDS);
        refused("IndexOutOfBoundsException of the other", three, "quarrel 0 ?", BOUNDS, "-1", "3", "5", "6");
        refused("IndexOutOfBoundsException of the other, the ends of int", three, "quarrel 2 ?", BOUNDS, INT_ENDS);
        refused("no such contributor is named ahead of the same", three, "quarrel ? ?", BOUNDS, "-1", "3", "6", "MIN",
                "MAX");
        due("there are 6", SIX_CONTRIBUTORS, "quarrel 6 0; quarrel 0 6; quarrel 6 6",
                BOUNDS + " " + BOUNDS + " " + BOUNDS);
        due("there are none", "", "quarrel 0 0; quarrel 0 1", BOUNDS + " " + BOUNDS);
    }

    // ---- Promise 14

    private static void giving() {
        String one = "volume z 9; contributor 9; contributor 1; make a 0 1; make b 0 1; make c 0 0;";
        due("returns how many that one has to write then", one, "give 0 0; give 1 0", "1 2");
        due("what is written is not to write", one + "give 0 0; pass 1", "give 1 0", 1);
        due("all of 24 to one", "volume z 24; contributor 1;" + ALL_ARTICLES + gifts(0, 23, 0), "give 23 0", 24);
        due("the last article to the last contributor", "volume z 24;" + SIX_CONTRIBUTORS + ALL_ARTICLES, "give 23 5",
                1);
        refused("IndexOutOfBoundsException of the article", one, "give ? 0", BOUNDS, "-1", "3", "24");
        refused("IndexOutOfBoundsException of the article, the ends of int", one, "give ? 1", BOUNDS, INT_ENDS);
        refused("IndexOutOfBoundsException of the contributor", one, "give 0 ?", BOUNDS, "-1", "2", "6");
        refused("IndexOutOfBoundsException of the contributor, the ends of int", one, "give 1 ?", BOUNDS, INT_ENDS);
        due("IndexOutOfBoundsException of both", one, "give 3 2; give -1 -1", BOUNDS + " " + BOUNDS);
        due("IndexOutOfBoundsException: there are none", "", "give 0 0", BOUNDS);
        due("it is blind", one, "give 2 0", STATE);
        due("a worth of 1 is not blind", one, "give 1 0", 1);
        due("it belongs to no volume", "volume m 9; contributor 9; make n 0 1; make m 0 1", "give 0 0; give 1 0",
                STATE + " 1");
        due("its volume is printed", one + "print 0", "give 0 0; give 1 1", STATE + " " + STATE);
        due("only the volume ahead is printed",
                "volume a 9; volume b 9; contributor 9; make a 0 1; make b 0 1; print 0",
                "give 0 0; give 1 0", STATE + " 1");
        due("it has a contributor", one + "give 0 0", "give 0 0; give 0 1", STATE + " " + STATE);
        due("it has a contributor and is not begun", one + "give 0 0; give 1 0", "give 1 0; give 1 1",
                STATE + " " + STATE);
        due("it has a text", one + "give 0 0; pass 1", "give 0 0; give 0 1", STATE + " " + STATE);
        due("it has a text, by a dead one", one + "give 0 0; pass 1; die 0", "give 0 0; give 0 1", STATE + " " + STATE);
        due("to one who lives", one + "die 0", "give 0 0; give 0 1", STATE + " 1");
        due("it is printed", one + "give 0 0; pass 1; print 0", "give 0 0; give 2 1", STATE + " " + STATE);
        refused("no such contributor is named ahead of blind", one, "give 2 ?", BOUNDS, "-1", "2", "MIN", "MAX");
        refused("no such contributor is named ahead of a printed volume", one + "print 0", "give 0 ?", BOUNDS, "-1",
                "2");
        refused("no such article is named ahead of a dead contributor", one + "die 0", "give ? 0", BOUNDS, "-1", "3");
    }

    private static String gifts(int from, int to, int contributor) {
        StringBuilder text = new StringBuilder();
        for (int i = from; i < to; i++) {
            text.append("give ").append(i).append(' ').append(contributor).append(';');
        }
        return text.toString();
    }

    private static void givingAmongEnemies() {
        String two = "volume z 9; contributor 9; contributor 9; contributor 9; quarrel 0 1; make a 0 1; make b 0 1;";
        due("without a reference", two + "give 1 1", "give 0 0", 1);
        due("it refers to one that is given to an enemy", two + "link 0 b; give 1 1", "give 0 0", STATE);
        due("one that is given to an enemy refers to it", two + "link 1 a; give 1 1", "give 0 0", STATE);
        due("the other of the two", two + "link 0 b; give 1 0", "give 0 1", STATE);
        due("one who has not quarrelled", two + "link 0 b; give 1 1", "give 0 2", 1);
        due("one's own", two + "link 0 b; give 1 1", "give 0 1", 2);
        due("it refers to one that was written by an enemy", two + "link 0 b; give 1 1; pass 9", "give 0 0", STATE);
        due("one that was written by an enemy refers to it", two + "link 1 a; give 1 1; pass 9", "give 0 0", STATE);
        due("written by a dead enemy", two + "link 1 a; give 1 1; pass 9; die 1", "give 0 0", STATE);
        due("given back by a dead enemy", two + "link 1 a; give 1 1; die 1", "give 0 0", 1);
        due("given to nobody", two + "link 0 b; link 1 a", "give 0 0", 1);
        due("the fourth reference", two + "link 0 x; link 0 y; link 0 z; link 0 b; give 1 1", "give 0 0", STATE);
        due("its fourth reference", two + "link 1 x; link 1 y; link 1 z; link 1 a; give 1 1", "give 0 0", STATE);
        due("four references to others", two + "link 0 x; link 0 y; link 0 z; link 0 bb; link 1 x; link 1 y; link 1 z;"
                + "link 1 aa; give 1 1", "give 0 0", 1);
        due("the second one with that headword", two + "make -b 0 1; link 0 b; give 2 1", "give 0 0", STATE);
        due("an enemy's printed one", "volume a 9; volume z 9; contributor 9; contributor 9; quarrel 1 0; make a 0 1;"
                + "make b 0 1; link 1 a; give 0 0; pass 9; print 0", "give 1 1", STATE);
        due("alike by letters", two + "make a-c 0 1; link 0 ac; give 2 1", "give 0 0", STATE);
        due("not alike by words", two + "make a-c 0 1; link 0 ac; give 2 1; rule true", "give 0 0", 1);
        due("alike by words", two + "make a-c 0 1; link 0 a_c; give 2 1; rule true", "give 0 0", STATE);
        due("a beginning is not alike", two + "make bb 0 1; link 0 b; give 2 1; link 2 aa", "give 0 0", 1);
        due("a quarrel of later", two + "link 0 b; give 1 2; give 0 0; quarrel 0 2; die 0", "give 0 1; quarrel 1 2",
                "1 0");
        due("the last two of 24 and of 6", "volume z 24;" + SIX_CONTRIBUTORS + ALL_ARTICLES + "link 23 a; quarrel 5 4;"
                + "give 22 4", "give 23 5; give 23 0", STATE + " 1");
    }

    // ---- Contributors of Terms, Promises 15, 16 and 19

    private static void writing() {
        String wrote = "contributor 9; make a 0 1; give 0 0;";
        due("as many months as columns by the pace: all", "volume z 9;" + wrote, "about 0 4", 1);
        due("rounded up: one more", "volume z 10;" + wrote, "about 0 4", 2);
        due("rounded up: none more", "volume z 18;" + wrote, "about 0 4", 2);
        due("rounded up: one more", "volume z 19;" + wrote, "about 0 4", 3);
        due("at least 1: a column", "volume z 1;" + wrote, "about 0 4", 1);
        due("at least 1: no column", "volume z 1; make aa 0 9;" + "contributor 9; make b 0 1; give 1 0",
                "about 1 2; about 1 4", "0 1");
        due("a month for no column goes by", "volume z 1; make aa 0 9; contributor 9; make b 0 1; give 1 0",
                "pass 1; pass 1", "1 0");
        due("columns as they are when it is begun", "volume z 9; contributor 1; make a 0 1; give 0 0; make b 0 8",
                "about 0 2; about 0 4", "1 9");
        due("and goes by them", "volume z 9; contributor 1; make a 0 1; give 0 0; make b 0 8", "pass 8; pass 1", "0 1");
        String after = "volume z 10; contributor 3; make a 0 1; make b 0 1; give 0 0; give 1 0;";
        due("one after the other", after, "all 4 2; pass 1; all 4 2; pass 1; all 4 2", "2 -1 0 2 -1 1 2 4");
        due("columns when the next is begun", after + "make c 0 8; pass 2", "all 2 3; all 4 2", "1 1 8 2 3");
        due("as they were given", "volume z 2; contributor 1; make a 0 1; make b 0 1; give 1 0; give 0 0; pass 2",
                "all 4 2", "2 1");
        due("one given behind it does not change it",
                "volume z 9; contributor 1; make a 0 1; give 0 0; make b 0 8; pass 1",
                "about 0 4; give 1 0; all 4 2; pass 7; pass 1; all 4 2", "9 2 9 -1 0 1 9 17");
        due("at first in that in which it was given", "volume z 2; contributor 1; make a 0 1; make b 0 1; pass 7;"
                + "give 0 0", "all 4 2", "8 -1");
        due("in that in which it was given, after an idle time", "volume z 2; contributor 1; make a 0 1; make b 0 1;"
                + "give 0 0; pass 7; give 1 0", "all 4 2", "1 8");
        due("in the month in which the one ahead was ended", "volume z 2; contributor 1; make a 0 1; make b 0 1;"
                + "give 0 0; give 1 0; pass 7", "all 4 2", "1 2");
        due("each writes alone", "volume z 2; contributor 1; contributor 1; make a 0 1; make b 0 1; give 0 0; give 1 1",
                "all 4 2; pass 1", "1 1 2");
        due("left out, they go on being written, one after the other", "volume z 9; contributor 3; make a 0 1;"
                + "make b 0 1; make c 0 1; give 0 0; give 1 0; give 2 0; print 0",
                "all 4 3; pass 1; all 4 3; pass 1; pass 1; all 0 3; supplement",
                "1 -1 -1 1 1 2 -1 1 1 2 2 2 300");
        due("given as it is, forbidden, with its references and facts", "volume z 9; contributor 9; make a 0 1;"
                + "forbid 0 true; link 0 b; use 0 3; give 0 0", "forbid 0 true; link 0 b; use 0 3", "1 2 0");
    }

    private static void dying() {
        String base = "volume z 3; contributor 1; contributor 9; make a 0 1; make b 0 1; make c 0 1;";
        due("nothing is given back", base, "die 0; die 1", "0 0");
        due("returns how many articles are given back", base + "give 0 0; give 1 0; give 2 1", "die 0; die 1", "2 1");
        due("all that is not written", base + "give 0 0; give 1 0; give 2 0; pass 1",
                "die 0; all 0 3; all 3 3; all 4 3",
                "2 2 0 0 0 -1 -1 1 -1 -1");
        due("all that is not written: nothing", base + "give 0 0; pass 1", "die 0; about 0 0; about 0 3", "0 2 0");
        due("24 articles", "volume z 24; contributor 1;" + ALL_ARTICLES + gifts(0, 24, 0), "die 0", 24);
        due("23 articles", "volume z 24; contributor 1;" + ALL_ARTICLES + gifts(0, 24, 0) + "pass 1", "die 0", 23);
        due("one can be given back that is begun, and begun anew", "volume z 9; contributor 1; contributor 9;"
                + "make a 0 1; give 0 0; pass 5; die 0", "about 0 4; give 0 1; about 0 4; pass 1", "-1 1 6 1");
        due("nothing is written by the dead", base + "give 0 0; die 0", "pass 50; about 0 0", "0 0");
        due("given back as it is, forbidden, with its references and facts",
                base + "forbid 0 true; link 0 b; use 0 3; give 0 0; die 0", "forbid 0 true; link 0 b; use 0 3",
                "1 2 0");
        due("what the dead have written is printed", base + "give 0 0; give 1 0; pass 1; die 0", "print 0; all 0 3",
                "1 3 0 0");
        due("what the dead have written comes with the supplement", base + "give 0 0; print 0; pass 1; die 0",
                "supplement", 100);
        due("given back out of a printed volume", base + "give 0 0; print 0; die 0", "about 0 0; give 0 1",
                "0 " + STATE);
        due("IllegalStateException if that one is dead", base + "give 0 0; die 0", "die 0", STATE);
        due("IllegalStateException if that one is dead, not another", base + "die 0", "die 0; die 1", STATE + " 0");
        refused("IndexOutOfBoundsException", base + "give 0 0", "die ?", BOUNDS, "-1", "2", "6");
        refused("IndexOutOfBoundsException, the ends of int", base, "die ?", BOUNDS, INT_ENDS);
        due("IndexOutOfBoundsException: there are none", "", "die 0", BOUNDS);
        due("the last of 6", SIX_CONTRIBUTORS, "die 6; die 5; die 5", BOUNDS + " 0 " + STATE);
    }

    private static void passing() {
        due("months: 1, 50", "", "pass 1; month; pass 50; month", "0 1 0 51");
        refused("IllegalArgumentException if months is out of range", "pass 3", "pass ?", ARGUMENT, "0", "51", "-1");
        refused("IllegalArgumentException if months is out of range, the ends of int", "", "pass ?", ARGUMENT,
                INT_ENDS);
        due("the month after a refused call", "pass 3", "pass 0; pass 51; month", ARGUMENT + " " + ARGUMENT + " 3");
        String fifty = "volume z 50; contributor 1; make a 0 1; give 0 0;";
        due("ended in the fiftieth month", fifty, "pass 50", 1);
        due("not ended in the forty-ninth", fifty, "pass 49; about 0 0; pass 1; about 0 0", "0 1 1 2");
        due("not ended in fifty", "volume z 51; contributor 1; make a 0 1; give 0 0", "pass 50; pass 1", "0 1");
        due("how many articles were written, by one", "volume z 24; contributor 1;" + ALL_ARTICLES + gifts(0, 24, 0),
                "pass 23; pass 1; pass 50", "23 1 0");
        due("how many articles were written, by all", "volume z 24;" + SIX_CONTRIBUTORS + ALL_ARTICLES + gifts(0, 4, 0)
                + gifts(4, 8, 1) + gifts(8, 12, 2) + gifts(12, 16, 3) + gifts(16, 20, 4) + gifts(20, 24, 5),
                "pass 1; pass 50", "6 18");
        due("nothing to write", "volume z 9; contributor 9; make a 0 1", "pass 50; about 0 0", "0 0");
        due("left out, it goes on being written", fifty + "pass 49; print 0", "about 0 0; pass 1; about 0 0", "1 1 2");
    }

    // ---- Promise 17

    private static void printing() {
        String two = "volume b 9; volume m 9; contributor 9;";
        due("how many articles are in it: none", two, "print 0; print 1", "0 0");
        due("IllegalStateException if one ahead is not printed", two + "make c 0 0", "print 1", STATE);
        due("IllegalStateException if it is printed", two + "make a 0 0; print 0", "print 0", STATE);
        due("IllegalStateException if it is printed, both", two + "print 0; print 1", "print 0; print 1",
                STATE + " " + STATE);
        due("in order, four", "volume a 1; volume b 1; volume c 1; volume d 1",
                "print 3; print 2; print 1; print 0; print 2; print 3; print 1; print 3; print 2; print 3",
                STATE + " " + STATE + " " + STATE + " 0 " + STATE + " " + STATE + " 0 " + STATE + " 0 0");
        refused("IndexOutOfBoundsException", two, "print ?", BOUNDS, "-1", "2", "4");
        refused("IndexOutOfBoundsException, the ends of int", two, "print ?", BOUNDS, INT_ENDS);
        due("IndexOutOfBoundsException: there are 4", "volume a 1; volume b 1; volume c 1; volume d 1", "print 4",
                BOUNDS);
        due("all its articles that are blind", two + "make a 0 0; make b 0 0; make c 0 0; make n 0 0",
                "print 0; all 0 4; print 1; all 0 4", "2 3 3 0 0 1 3 3 3 0");
        due("or have a text", two + "make a 0 1; make b 0 1; make bb 0 1; make ba 0 1; give 0 0; give 1 0; pass 1",
                "print 0; all 0 4", "1 3 1 0 0");
        due("those that are forbidden with them",
                two + "make a 0 0; make b 0 1; forbid 0 true; forbid 1 true; give 1 0;"
                + "pass 1", "print 0; all 0 2", "2 3 3");
        due("what was left out of the one ahead is not in it", two + "make a 0 1; print 0; make aa 0 0",
                "print 1; all 0 2",
                "0 0 0");
        due("24 articles", "volume z 9;" + "make a 0 0;".repeat(24), "print 0", 24);
    }

    private static void referencesInPrint() {
        String two = "volume b 9; volume m 9; contributor 9; make a 0 0;";
        due("nothing is printed", two + "link 0 b", "struck", 0);
        due("to its own headword", two + "link 0 a; print 0", "struck; open true", "0 0");
        due("to one in this volume, behind", two + "make b 0 0; link 0 b; print 0", "struck", 0);
        due("to one in this volume, ahead", two + "make b 0 0; link 1 a; print 0", "struck", 0);
        due("to one that is left out of this volume", two + "make b 0 1; link 0 b; print 0", "struck", 1);
        due("of one that is left out: none is looked at", two + "make b 0 1; link 1 bb; link 1 c; print 0; print 1",
                "struck; open true; open false; supplement; open true", "0 0 0 0 0");
        due("of one of the next volume: none is looked at", two + "make c 0 0; link 1 b; link 1 d; print 0",
                "struck; print 1; struck", "0 1 2");
        due("of one that was left out: when it is printed", two + "make b 0 1; give 1 0; link 1 bb; link 1 c; print 0;"
                + "pass 1; make bb 0 0", "supplement; struck; print 1; open true", "200 0 0 1");
        due("to one in this volume that is not there", two + "link 0 b; print 0", "struck", 1);
        due("to one in the volume ahead", two + "make c 0 0; link 1 a; print 0; print 1", "struck", 0);
        due("to one that is left out of the volume ahead", two + "make aa 0 1; make c 0 0; link 2 aa; print 0; print 1",
                "struck", 1);
        due("to one that is not in the volume ahead", two + "make c 0 0; link 1 b; print 0; print 1", "struck", 1);
        due("a promise of the next volume", two + "link 0 c; print 0", "struck; open true", "0 0");
        due("a promise of the last letter of the next volume", two + "link 0 m; print 0", "struck; open true", "0 0");
        due("a promise of none", two + "link 0 n; print 0; print 1", "struck; open true; supplement", "0 0 0");
        due("would belong: the volume's last letter", "volume m 9; make a 0 0; link 0 m; link 0 n; print 0", "struck",
                1);
        due("four are struck", two + "link 0 b; link 0 b; link 0 aa; link 0 -b; print 0", "struck", 4);
        due("what is struck stays so", two + "make b 0 1; link 0 b; give 1 0; print 0; pass 1; supplement",
                "about 1 0; struck; open true", "3 1 0");
        due("alike by letters", two + "make a-b 0 0; link 0 ab; print 0", "struck", 0);
        due("alike by words", two + "make a-b 0 0; link 0 a_b; link 0 ab; link 0 a__b; rule true; print 0", "struck",
                2);
        due("the headword of two articles, of which the second is printed",
                two + "make b 0 1; make b 0 0; link 0 b; print 0",
                "struck", 0);
        due("the headword of two articles, of which the first is printed",
                two + "make b 0 0; make b 0 1; link 0 b; print 0", "struck", 0);
        due("the headword of two articles, of which none is printed", two + "make b 0 1; make b 0 1; link 0 b; print 0",
                "struck", 1);
        due("by the rule of the printing", "volume b 9; make ab 0 0; link 0 a-b; rule true", "print 0; struck", "1 1");
        due("96 are struck", "volume b 9;" + allLinked("a", "b") + "print 0", "struck", 96);
    }

    /** 24 blind articles, each with 4 references. */
    private static String allLinked(String headword, String reference) {
        StringBuilder text = new StringBuilder();
        for (int i = 0; i < 24; i++) {
            text.append("make ").append(headword).append(" 0 0;");
            text.append(("link " + i + " " + reference + ";").repeat(4));
        }
        return text.toString();
    }

    // ---- Promise 18

    private static void supplements() {
        String two = "volume b 9; volume m 9; contributor 9;";
        due("IllegalStateException if no volume is printed", two + "make a 0 0", "supplement", STATE);
        due("IllegalStateException if no volume is printed: there is none", "contributor 9", "supplement", STATE);
        due("one volume is printed", two + "print 0", "supplement; supplement", "0 0");
        due("nothing was left out", two + "make a 0 0; print 0", "supplement", 0);
        due("those that have a text", two + "make a 0 1; make b 0 1; make aa 0 1; give 0 0; give 1 0; print 0; pass 1",
                "supplement; all 0 3; supplement", "100 3 1 0 0");
        due("or are blind", two + "print 0; make a 0 0; make b 0 0", "supplement; all 0 2; supplement", "200 3 3 0");
        due("and belong to a volume that is printed", two + "print 0; make b 0 0; make c 0 0; make n 0 0",
                "supplement; all 0 3", "100 3 0 0");
        due("of all volumes that are printed", two + "print 0; print 1; make b 0 0; make c 0 0; make n 0 0",
                "supplement; all 0 3", "200 3 3 0");
        due("24 articles", "volume z 9; print 0;" + "make a 0 0;".repeat(24), "supplement", 2400);
        due("forbidden ones with them", two + "print 0; make a 0 0; forbid 0 true", "supplement; forbid 0 false",
                "100 " + STATE);
        due("their references stand likewise, to one that is printed",
                two + "make a 0 0; print 0; make b 0 0; link 1 a",
                "supplement; struck", "100 0");
        due("to one in the same supplement, behind", two + "print 0; make a 0 0; link 0 b; make b 0 0",
                "supplement; struck", "200 0");
        due("to one in the same supplement, ahead", two + "print 0; make a 0 0; make b 0 0; link 1 a",
                "supplement; struck", "200 0");
        due("are struck likewise", two + "print 0; make a 0 0; link 0 b; link 0 aa; make b 0 1", "supplement; struck",
                "100 2");
        due("are promises likewise", two + "print 0; make a 0 0; link 0 c; link 0 n",
                "supplement; struck; print 1; open true; supplement", "100 0 0 1 1");
        due("columns for the share of those that come late",
                "volume z 9; contributor 9; make a 0 1; print 0; make b 0 8",
                "all 2 2; give 0 0; give 1 0", "1 8 " + STATE + " " + STATE);
    }

    private static void errataOfFacts() {
        String one = "volume z 9; contributor 9; make a 0 1; use 0 0; use 0 7; change 7 3; give 0 0; pass 1; print 0;";
        due("as was printed", one, "supplement; errata 0", "0 0");
        due("another value: the facts at the ends", one + "change 0 1; change 7 1", "supplement; errata 0; supplement",
                "2 2 0");
        due("another value, told once", one + "change 0 MIN", "supplement; supplement; errata 0", "1 0 1");
        due("than was told last", one + "change 0 MIN; supplement; change 0 MAX", "supplement; errata 0; supplement",
                "1 2 0");
        due("than was told last, as it was printed", one + "change 7 1; supplement; change 7 3", "supplement; errata 0",
                "1 2");
        due("changed and changed back", one + "change 7 1; change 7 3", "supplement; errata 0", "0 0");
        due("the values of the printing, of an article that is made after the change", "volume z 9; contributor 9;"
                + "change 0 5; make a 0 1; use 0 0; give 0 0; pass 1; print 0", "supplement; errata 0", "0 0");
        due("one fact of two articles, each for itself",
                "volume b 9; volume z 9; contributor 9; make a 0 1; make c 0 1; use 0 0; use 1 0; give 0 0; give 1 0;"
                + "pass 2; print 0; change 0 5; print 1",
                "supplement; errata 0", "1 1");
        due("facts that it does not use", one + "change 1 1; change 6 1", "supplement; errata 0", "0 0");
        due("the values of the printing, not of the use", "volume z 9; contributor 9; make a 0 1; use 0 0; give 0 0;"
                + "pass 1; change 0 5; print 0", "supplement; errata 0", "0 0");
        due("printed in the same supplement",
                "volume z 9; contributor 9; make a 0 1; use 0 0; give 0 0; print 0; pass 1;"
                + "change 0 5", "supplement; supplement; change 0 0; supplement", "100 0 5 1");
        due("one that is not printed", one + "make b 0 1; use 1 0; change 0 1", "supplement", 1);
        due("of a forbidden one", "volume z 9; contributor 9; make a 0 1; use 0 0; forbid 0 true; give 0 0; pass 1;"
                + "print 0; change 0 1", "supplement; errata 0", "1 1");
        due("all facts of one article",
                "volume z 9; contributor 9; make a 0 1;" + uses(1) + "give 0 0; pass 1; print 0;"
                + changes(), "supplement; errata 0; supplement", "8 8 0");
        due("all facts of all articles", "volume z 24; contributor 9;" + ALL_ARTICLES + uses(24) + gifts(0, 24, 0)
                + "pass 24; print 0;" + changes(), "supplement; errata 0; supplement", "192 192 0");
    }

    private static String uses(int articles) {
        StringBuilder text = new StringBuilder();
        for (int i = 0; i < articles; i++) {
            for (int fact = 0; fact < 8; fact++) {
                text.append("use ").append(i).append(' ').append(fact).append(';');
            }
        }
        return text.toString();
    }

    private static String changes() {
        StringBuilder text = new StringBuilder();
        for (int fact = 0; fact < 8; fact++) {
            text.append("change ").append(fact).append(" -1;");
        }
        return text.toString();
    }

    private static void errataOfPromises() {
        String two = "volume b 9; volume m 9; contributor 9; make a 0 0;";
        due("of a volume that is not printed", two + "link 0 c; print 0", "supplement; supplement", "0 0");
        due("of none", two + "link 0 n; print 0; print 1", "supplement", 0);
        due("of a volume that is printed now", two + "link 0 c; print 0; print 1", "open true; supplement; open true",
                "1 1 0");
        due("its last letter", two + "link 0 m; link 0 n; print 0; print 1", "supplement", 1);
        due("planned later", two + "link 0 n; print 0; print 1; volume n 1", "supplement; print 2; supplement",
                "0 0 1");
        due("each once", two + "link 0 c; print 0; print 1; supplement", "supplement; supplement", "0 0");
        due("each reference", two + "link 0 c; link 0 c; link 0 -c; link 0 d; print 0; print 1",
                "supplement; supplement",
                "4 0");
        due("an article is printed", two + "link 0 c; print 0; make c 0 0; print 1", "supplement; open true", "0 0");
        due("an article is printed in the same supplement", two + "link 0 c; print 0; print 1; make c 0 0",
                "open true; supplement; open true", "1 100 0");
        due("an article is left out", two + "link 0 c; print 0; make c 0 1; print 1", "supplement; open true", "1 0");
        due("two articles, of which one is printed", two + "link 0 c; print 0; make c 0 1; make c 0 0; print 1",
                "open true; supplement", "0 0");
        due("alike by letters", two + "link 0 c_d; link 0 cd; make cd 0 0; print 0; print 1", "open true; supplement",
                "0 0");
        due("alike by words", two + "link 0 c_d; link 0 cd; make cd 0 0; rule true; print 0; print 1",
                "open true; supplement", "1 1");
        due("alike by words, a hyphen", two + "link 0 c_d; link 0 cd; make c-d 0 0; rule true; print 0; print 1",
                "open true; supplement", "1 1");
        due("an article is left out, and comes when it is told",
                two + "link 0 c; print 0; make c 0 1; give 1 0; print 1;"
                + "supplement; pass 1", "supplement; supplement; open true", "100 0 0");
        due("which nobody owns",
                "volume b 9; volume m 9; contributor 9; make a 0 1; link 0 c; give 0 0; pass 1; print 0;"
                + "print 1", "supplement; errata 0", "1 0");
        due("of a forbidden one", two + "link 0 c; forbid 0 true; print 0; print 1",
                "open false; open true; supplement; open true", "0 1 1 0");
        due("96 of them", "volume a 9; volume b 9;" + allLinked("a", "b") + "print 0; print 1",
                "open true; open false; readAnew true; supplement; open true; supplement", "96 96 9600 96 0 0");
        due("facts and promises together", "volume b 9; volume m 9; contributor 9; make a 0 1; use 0 0; link 0 c;"
                + "give 0 0; pass 1; print 0; print 1; change 0 1; make b 0 0", "supplement; errata 0", "102 1");
    }

    // ---- Forbidden ones, of Terms

    private static void forbiddenInPrint() {
        String two = "volume b 9; volume m 9; contributor 9; make a 0 0; make b 0 0;";
        due("its references are looked at likewise", two + "link 0 aa; forbid 0 true; print 0", "struck", 1);
        due("references to its headword stand", two + "link 0 b; forbid 1 true; print 0", "struck; readAnew false",
                "0 0");
        due("its headword keeps promises", two + "make c 0 0; link 0 c; forbid 2 true; print 0; print 1",
                "open false; open true; supplement", "0 0 0");
        due("without its own references", two + "link 0 c; link 1 c; forbid 1 true; print 0; print 1",
                "open false; open true; readAnew false; readAnew true", "1 2 100 200");
        due("forbidden no more", two + "link 0 c; forbid 0 true; forbid 0 false; print 0; print 1", "open false", 1);
        String facts = "volume b 9; volume m 9; contributor 9; make a 0 1; make c 0 1; use 0 0; use 1 0; give 0 0;"
                + "give 1 0; pass 9;";
        due("without its own facts", facts + "forbid 1 true; print 0; change 0 1; print 1",
                "contradictions false; contradictions true; readAnew false; readAnew true", "0 1 0 1");
        due("without its own facts, the one ahead", facts + "forbid 0 true; print 0; change 0 1; print 1",
                "contradictions false; contradictions true", "0 1");
        due("both forbidden", facts + "forbid 0 true; forbid 1 true; print 0; change 0 1; print 1",
                "contradictions false; contradictions true; synopsis 0", "0 1 2");
    }

    // ---- Promises 20 to 27

    private static void places() {
        String three = "make b 0 0; make a 0 1; make aa 0 0;";
        due("from 0, to the last", three, "at 0; at 1; at 2", "1 2 0");
        due("NONE if there are not so many", three, "at 3; at 4; at 24; at MAX", "-1 -1 -1 -1");
        due("NONE if there are not so many: none", "", "at 0; at 1; at MAX", "-1 -1 -1");
        refused("IndexOutOfBoundsException if place is below 0", three, "at ?", BOUNDS, "-1", "-2", "MIN");
        refused("IndexOutOfBoundsException if place is below 0, without articles", "", "at ?", BOUNDS, "-1", "MIN");
        due("24 articles", ALL_ARTICLES, "at 0; at 23; at 24; at -1", "0 23 -1 " + BOUNDS);
        due("of all: given, written, printed ones with them", "volume a 9; volume z 9; contributor 9; make d 0 1;"
                + "make c 0 1; make b 0 1; make a 0 0; give 0 0; pass 1; give 1 0; print 0", "places 5", "3 2 1 0 -1");
    }

    private static void questionsAbout() {
        String one = "volume m 9; contributor 9; make a 0 1; make b 0 0; make n 0 1;";
        due("what: 0, 4", one, "about 0 0; about 0 4", "0 -1");
        refused("IllegalArgumentException if what is out of range", one, "about 0 ?", ARGUMENT, "-1", "5");
        refused("IllegalArgumentException if what is out of range, the ends of int", one, "about 1 ?", ARGUMENT,
                INT_ENDS);
        refused("IndexOutOfBoundsException", one, "about ? 0", BOUNDS, "-1", "3", "24");
        refused("IndexOutOfBoundsException, the ends of int", one, "about ? 4", BOUNDS, INT_ENDS);
        refused("no such article is named ahead of what", one, "about 3 ?", BOUNDS, "-1", "5", "MIN", "MAX");
        due("there are 24", ALL_ARTICLES, "about 23 0; about 24 0; about 24 5", "0 " + BOUNDS + " " + BOUNDS);
        due("0: PLANNED to PRINTED", one, "all 0 3; give 0 0; all 0 3; pass 1; all 0 3; print 0; all 0 3",
                "0 0 0 1 1 0 0 1 2 0 0 2 3 3 0");
        due("1: the volume to which it belongs, NONE", one, "all 1 3", "0 0 -1");
        due("2: its columns, 0 without a volume", one, "all 2 3", "9 0 0");
        due("3: to whom it was given, or by whom it was written, NONE", one + "contributor 1",
                "all 3 3; give 0 1; all 3 3; pass 9; all 3 3; print 0; all 3 3; die 1; about 0 3",
                "-1 -1 -1 1 1 -1 -1 1 1 -1 -1 2 1 -1 -1 0 1");
        due("4: in which month it will be written, or was, NONE", one + "pass 3",
                "all 4 3; give 0 0; all 4 3; pass 2; all 4 3; print 0; all 4 3; die 0; about 0 4",
                "-1 -1 -1 1 4 -1 -1 1 4 -1 -1 2 4 -1 -1 0 4");
        due("4: NONE if that one does not live on", one + "give 0 0; die 0", "about 0 4; about 0 3", "-1 -1");
    }

    private static void owners() {
        refused("IndexOutOfBoundsException", "contributor 1", "errata ?", BOUNDS, "-1", "1", "6");
        refused("IndexOutOfBoundsException, the ends of int", "contributor 1", "errata ?", BOUNDS, INT_ENDS);
        due("there are 6", SIX_CONTRIBUTORS, "errata 0; errata 5; errata 6", "0 0 " + BOUNDS);
        due("owned by the article's contributor", "volume z 9;" + SIX_CONTRIBUTORS + "make a 0 1; make b 0 1; use 0 0;"
                + "use 1 0; use 1 1; give 0 0; give 1 5; pass 1; print 0; change 0 1; change 1 1; supplement",
                "errata 0; errata 1; errata 5", "1 0 2");
        due("owned by one who dies later", "volume z 9; contributor 9; make a 0 1; use 0 0; give 0 0; pass 1; print 0;"
                + "change 0 1; supplement; die 0", "errata 0", 1);
        due("owned by a dead one", "volume z 9; contributor 9; make a 0 1; use 0 0; give 0 0; pass 1; print 0; die 0;"
                + "change 0 1; supplement", "errata 0", 1);
        due("not by one who gave it back", "volume z 9; contributor 9; contributor 9; make a 0 1; use 0 0; give 0 0;"
                + "die 0; give 0 1; pass 1; print 0; change 0 1; supplement", "errata 0; errata 1", "0 1");
    }

    private static void openOnes() {
        String two = "volume b 9; volume m 9; make a 0 0;";
        due("nothing is printed", two + "link 0 b; link 0 c", "open true; open false", "0 0");
        due("what is struck is no promise", two + "link 0 b; print 0; print 1", "open true; open false", "0 0");
        due("of headwords that would belong to a volume that is printed", two + "link 0 c; link 0 d; print 0",
                "open true; print 1; open true", "0 0 2");
        due("the volume's ends", two + "link 0 c; link 0 m; link 0 n; link 0 z; print 0; print 1", "open true", 2);
        due("of which no article is printed", two + "link 0 c; link 0 d; make d 0 0; make c 0 1; print 0; print 1",
                "open true", 1);
        due("each reference", two + "link 0 c; link 0 c; print 0; print 1", "open true; open false", "2 2");
        due("and that is not told", two + "link 0 c; print 0; print 1; supplement", "open true; open false", "0 0");
        due("told of one, then promised by another one", two + "link 0 n; print 0; print 1; volume n 9; make b 0 0;"
                + "print 2; supplement; make aa 0 0; link 2 n; supplement", "open true; struck", "0 1");
    }

    private static void contradictions() {
        String two = "volume b 9; volume m 9; contributor 9; make a 0 1; make c 0 1; give 0 0; give 1 0; pass 9;"
                + "use 0 0; use 1 0; use 0 7; use 1 7; use 0 3; use 1 4;";
        due("nothing is printed", two, "contradictions true; contradictions false", "0 0");
        due("one article", two + "print 0; change 0 1; change 7 1", "contradictions true", 0);
        due("one that is not printed", two + "change 0 1; change 7 1; print 0",
                "contradictions true; contradictions false",
                "0 0");
        due("alike values", two + "print 0; print 1", "contradictions true", 0);
        due("unlike values in two articles, the facts at the ends", two + "print 0; change 0 1; change 7 1; print 1",
                "contradictions true; contradictions false; readAnew true", "2 2 2");
        due("unlike values at the ends of int", two + "change 0 MIN; print 0; change 0 MAX; print 1",
                "contradictions true", 1);
        due("unlike values that differ by all of int", two + "change 0 0; print 0; change 0 MIN; print 1",
                "contradictions true", 1);
        due("used by one article alone", two + "print 0; change 3 1; change 4 1; print 1", "contradictions true", 0);
        due("as told last", two + "print 0; change 0 1; print 1; supplement", "contradictions true; readAnew true",
                "0 0");
        due("a change that is not told", two + "print 0; print 1; change 0 9", "contradictions true", 0);
        due("all facts", "volume b 9; volume m 9; contributor 9; make a 0 1; make c 0 1; give 0 0; give 1 0; pass 9;"
                + uses(2) + "print 0;" + changes() + "print 1", "contradictions true; readAnew false; supplement;"
                + "contradictions true", "8 8 8 0");
        due("between the first and the third of three", "volume b 9; volume m 9; volume z 9; contributor 9; make a 0 1;"
                + "make c 0 1; make n 0 1;" + gifts(0, 3, 0) + "use 0 0; use 1 1; use 2 0; pass 9; print 0; print 1;"
                + "change 0 1; print 2", "contradictions true; contradictions false", "1 1");
        due("between the third and two that are alike", "volume b 9; volume m 9; volume z 9; contributor 9;"
                + "make a 0 1; make c 0 1; make n 0 1;" + gifts(0, 3, 0) + "use 0 0; use 1 0; use 2 0; pass 9; print 0;"
                + "print 1; change 0 1; print 2", "contradictions true; contradictions false", "1 1");
        due("between the second and the third", "volume b 9; volume m 9; volume z 9; contributor 9;"
                + "make a 0 1; make c 0 1; make n 0 1;" + gifts(0, 3, 0) + "use 0 1; use 1 0; use 2 0; pass 9; print 0;"
                + "print 1; change 0 1; print 2", "contradictions true; contradictions false", "1 1");
        due("each fact once", "volume b 9; volume m 9; volume z 9; contributor 9; make a 0 1; make c 0 1; make n 0 1;"
                + gifts(0, 3, 0) + "use 0 0; use 1 0; use 2 0; pass 9; print 0; change 0 1; print 1;"
                + "change 0 2; print 2",
                "contradictions true", 1);
        due("the one 100 times, and the other", two + "link 0 d; link 0 m; print 0; change 0 1; print 1",
                "open true; contradictions true; readAnew true; readAnew false", "2 1 201 201");
    }

    private static void synopses() {
        refused("IndexOutOfBoundsException", "volume z 9; make a 9 0; print 0", "synopsis ?", BOUNDS, "-1", "10");
        refused("IndexOutOfBoundsException, the ends of int", "", "synopsis ?", BOUNDS, INT_ENDS);
        String nine = "volume z 9; make a 9 0; make b 0 0; make c 9 1; make d 8 0; forbid 0 true;";
        due("printed articles", nine, "synopsis 0; synopsis 9", "0 0");
        due("of a subject, forbidden ones with them", nine + "print 0",
                "synopsis 0; synopsis 8; synopsis 9; synopsis 1",
                "1 1 1 0");
        due("or one that is under it", nine + "print 0; under 9 0", "synopsis 0; synopsis 8; synopsis 9", "2 1 1");
        String chain = "under 1 0; under 2 1; under 3 2; under 4 3;"
                + "under 5 4; under 6 5; under 7 6; under 8 7; under 9 8;";
        due("by however many steps: nine", nine + "print 0;" + chain, "synopsis 0; synopsis 1; synopsis 8; synopsis 9",
                "3 2 2 1");
        due("a chain that is cut", nine + "print 0;" + chain + "under 1 NONE", "synopsis 0; synopsis 1", "1 2");
        due("24 articles", "volume z 9;" + "make a 9 0;".repeat(24) + "print 0;" + chain, "synopsis 0; synopsis 9",
                "24 24");
    }

    // ---- What it is

    private static void lastCall() {
        answered("512 calls: refused ones", "", "sign #0;".repeat(511) + "sign a", (ARGUMENT + " ").repeat(511) + "1");
        answered("512 calls: signs", "", "sign a; erase;".repeat(256), "1 1 ".repeat(256).trim());
        answered("512 calls: 25,550 months", "", "pass 50;".repeat(511) + "month", "0 ".repeat(511) + "25550");
        answered("512 calls: a fact", "", "change 7 1; change 7 0;".repeat(256), "0 1 ".repeat(256).trim());
        answered("512 calls: supplements", "volume a 1; print 0;", "supplement;".repeat(510), "0 ".repeat(510).trim());
        answered("written in month 25,001",
                "volume z 1; contributor 1; make a 0 1;" + "pass 50;".repeat(500) + "give 0 0",
                "about 0 4; pass 1; about 0 0; about 0 4", "25001 1 2 25001");
        String two = "volume b 9; volume m 9; make a 0 0; link 0 c; link 0 m; print 0; print 1;";
        answered("512 calls: sets read again and again", two, "readAnew true; readAnew false;".repeat(251),
                "200 ".repeat(502).trim());
    }
}
