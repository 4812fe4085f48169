/** States in which the tests look at calls, as runs of fewer than 300 calls. */
final class States {
    static final String FRESH = "";

    /** One of three volumes printed; articles and references in every condition, and a dead contributor. */
    static final String LIVELY = "volume c 20; volume m 9; volume t 5;"
            + "contributor 1; contributor 9; contributor 3; contributor 2; quarrel 1 3; quarrel 2 3;"
            + "under 9 4; under 4 1;"
            + "make a_b 1 3; make ab 2 2; make b 2 0; make c-a 3 5; make d 4 4; make m 5 1; make n 9 1; make z 9 2;"
            + "make e 4 3; link 0 n; link 1 b; link 1 ca; link 1 no; link 2 y; link 2 b-b; link 4 -a-b; link 6 d;"
            + "use 0 0; use 0 7; use 1 0; use 1 7; use 3 0; use 4 1; use 8 7; change 0 5; change 7 MIN;"
            + "forbid 1 true; forbid 8 true;"
            + "give 0 1; give 8 1; give 1 2; pass 9; give 3 0; give 4 0; give 5 2; die 2; pass 1;"
            + "print 0; change 0 6; supplement; change 0 8; change 1 9; draft -x_y";

    /** As many of everything as there may be, and nothing printed. */
    static final String FULL = full();

    /** As many of everything as there may be, with all volumes printed, and some facts changed behind the press. */
    static final String FINISHED = FULL + "pass 3; print 0; print 1; print 2; print 3; change 0 1; change 2 MAX";

    private States() {
    }

    private static String full() {
        StringBuilder text = new StringBuilder("volume f 99; volume m 98; volume t 97; volume w 96;");
        for (int i = 0; i < 6; i++) {
            text.append("contributor ").append(i + 4).append(';');
        }
        for (int i = 0; i < 24; i++) {
            text.append("make ").append((char) ('a' + i)).append(' ').append(i % 10).append(' ').append(i % 10)
                    .append(';');
            for (int r = 1; r <= 4; r++) {
                text.append("link ").append(i).append(' ').append((char) ('a' + (i + 5 * r) % 26)).append(';');
            }
        }
        for (int i = 1; i < 8; i++) {
            text.append("use ").append(i).append(' ').append(i).append(";use ").append(i).append(" 0;");
        }
        for (int i = 1; i < 7; i++) {
            text.append("give ").append(i).append(' ').append(i - 1).append(';');
        }
        return text.append("draft ab-cd_e-;").toString();
    }
}
