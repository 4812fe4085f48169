import java.util.ArrayList;
import java.util.List;
import java.util.function.Supplier;

/**
 * Runs of calls, written as texts: "volume m 9; make a_b 0 1; link 0 n-o; give 0 0". In them a blank is written _, a
 * char by its number #45, and an int may be MIN, MAX or NONE. Beside the calls of the face there are
 *   draft SIGNS: sign by sign,
 *   make SIGNS SUBJECT WORTH: draft and article,
 *   link ARTICLE SIGNS: draft and refer,
 *   places N: at of the places from 0 below N,
 *   all WHAT N: about of the articles from 0 below N.
 */
final class Script {
    private final Answering x;

    private Script(Answering x) {
        this.x = x;
    }

    /** What each statement answered, the last call of it, or all of them for places and all. */
    static List<String> run(Answering x, String text) {
        List<String> answers = new ArrayList<>();
        for (String statement : text.split(";")) {
            if (!statement.isBlank()) {
                answers.add(new Script(x).tell(statement.trim().split(" +")));
            }
        }
        return answers;
    }

    /** Makes a state by calls of which none may throw. */
    static <T extends Answering> T make(T x, String text) {
        for (String answer : run(x, text)) {
            if (answer.startsWith("java")) {
                throw new Error("a state is not reached: " + text);
            }
        }
        return x;
    }

    static Supplier<Calls> state(String text) {
        return () -> make(new Calls(new CircleOfLeaves()), text);
    }

    private String tell(String[] words) {
        switch (words[0]) {
            case "draft": return draft(words[1]);
            case "make": return both(draft(words[1]), x.told("article", number(words, 2), number(words, 3)));
            case "link": return both(draft(words[2]), x.told("refer", number(words, 1), 0));
            case "places": return row("at", 0, number(words, 1));
            case "all": return row("about", number(words, 1), number(words, 2));
            default: return x.told(words[0], number(words, 1), number(words, 2));
        }
    }

    private static String both(String first, String last) {
        return first.startsWith("java") ? first : last;
    }

    private String draft(String signs) {
        String last = "";
        for (int i = 0; i < signs.length() && !last.startsWith("java"); i++) {
            char sign = signs.charAt(i);
            last = x.told("sign", sign == '_' ? ' ' : sign, 0);
        }
        return last;
    }

    private String row(String name, int what, int count) {
        List<String> answers = new ArrayList<>();
        for (int i = 0; i < count; i++) {
            answers.add(x.told(name, i, what));
        }
        return String.join(" ", answers);
    }

    /** An argument; a call without it passes it over. */
    private static int number(String[] words, int at) {
        if (at >= words.length) {
            return 0;
        }
        String word = words[at];
        switch (word) {
            case "MIN": return Integer.MIN_VALUE;
            case "MAX": return Integer.MAX_VALUE;
            case "NONE": return CircleOfLeaves.NONE;
            case "true": return 1;
            case "false": return 0;
            case "_": return ' ';
            case "-": return '-';
            default: break;
        }
        if (word.charAt(0) == '#') {
            return Integer.parseInt(word.substring(1));
        }
        boolean isSign = word.length() == 1 && !Character.isDigit(word.charAt(0));
        return isSign ? word.charAt(0) : Integer.parseInt(word);
    }
}
