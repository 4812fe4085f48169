import java.util.Arrays;
import java.util.concurrent.Callable;

/** What the tests have in common: counting what is as due, and making articles of texts. */
abstract class Checks {
    static final String BOUNDS = "java.lang.IndexOutOfBoundsException";
    static final String ARGUMENT = "java.lang.IllegalArgumentException";
    static final String STATE = "java.lang.IllegalStateException";

    private static int passed = 0;
    private static int failed = 0;

    static void is(String what, Object got, Object due) {
        if (due.equals(got)) {
            passed++;
        } else {
            failed++;
            System.out.println(what + " answered " + got + ", due is " + due);
        }
    }

    static String answer(Callable<?> call) {
        try {
            return String.valueOf(call.call());
        } catch (Exception e) {
            return e.getClass().getName();
        }
    }

    static void isThrown(String what, String due, Callable<?> call) {
        is(what, answer(call), due);
    }

    /** Tells how many checks passed and ends the program, with 1 if one failed. */
    static void end() {
        System.out.println(passed + " passed, " + failed + " failed");
        if (failed > 0 || passed == 0) {
            System.exit(1);
        }
    }

    static CircleOfLeaves draft(CircleOfLeaves x, String signs) {
        for (int i = 0; i < signs.length(); i++) {
            x.sign(signs.charAt(i));
        }
        return x;
    }

    static int make(CircleOfLeaves x, String headword, int subject, int worth) {
        draft(x, headword);
        return x.article(subject, worth);
    }

    static int refer(CircleOfLeaves x, int article, String headword) {
        draft(x, headword);
        return x.refer(article);
    }

    /** Gives the article to the contributor and lets that one write it. */
    static void write(CircleOfLeaves x, int article, int contributor) {
        x.give(article, contributor);
        for (int i = 0; i < 100 && x.about(article, 0) == CircleOfLeaves.GIVEN; i++) {
            x.pass(1);
        }
    }

    static String places(CircleOfLeaves x, int count) {
        int[] row = new int[count];
        for (int i = 0; i < count; i++) {
            row[i] = x.at(i);
        }
        return Arrays.toString(row);
    }

    /** Each article's answer to the same question. */
    static String about(CircleOfLeaves x, int what, int count) {
        int[] row = new int[count];
        for (int i = 0; i < count; i++) {
            row[i] = x.about(i, what);
        }
        return Arrays.toString(row);
    }
}
