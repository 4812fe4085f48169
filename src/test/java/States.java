/** States in which the tests look at calls, as runs of fewer than 300 calls. */
final class States {
    static final String FRESH = "";

    /** One of three volumes printed; articles and references in every condition, and a dead contributor. */
    static final String LIVELY = "volume c 20; volume m 9; volume t 5;"
            + "contributor 1; contributor 9; contributor 3; contributor 2; quarrel 1 3; quarrel 2 3;"
            + "under 9 4; under 4 1;"
            + "make a_b 1 3; make ab 2 2; make b 2 0; make c-a 3 5; make d 4 4; make m 5 1; make n 9 1; make z 9 2;"
            + "make e 4 3; link 0 n; link 1 b; link 1 ca; link 1 no; link 2 y; link 2 b-b; link 4 -a-b; link 6 d;"
            + "use 0 0; use 0 7; use 1 0; use 1 7; use 3 0; use 4 1; use 8 7; change 0 5; change 7 MIN;"
            + "forbid 1 true; forbid 8 true;"
            + "give 0 1; give 8 1; give 1 2; pass 9; give 3 0; give 4 0; give 5 2; die 2; pass 1;"
            + "print 0; change 0 6; supplement; change 0 8; change 1 9; draft -x_y";

    /** As many of everything as there may be, and nothing printed. */
    static final String FULL = full();

    /** As many of everything as there may be, with all volumes printed, and some facts changed behind the press. */
    static final String FINISHED = FULL + "pass 3; print 0; print 1; print 2; print 3; change 0 1; change 2 MAX";

    /**
     * By words, with nothing printed: headwords that are alike by their letters alone, rows to write, articles that are
     * written, given back, blind, forbidden, of no volume.
     */
    static final String WRITING = "rule true; volume g 31; volume n 22;"
            + "contributor 2; contributor 1; contributor 3; contributor 9; contributor 4;"
            + "quarrel 0 1; quarrel 2 1; under 8 2; under 2 0;"
            + "make a_b 8 3; make ab 2 3; make -c 0 0; make d-e 1 1; make de 1 2; make h 3 4; make m 4 1; make o 5 2;"
            + "make g_g 6 5; link 0 ab; link 0 i; link 0 p; link 1 a-b; link 2 dd; link 3 ab; link 5 a_b; link 6 m;"
            + "link 7 h; use 0 0; use 0 7; use 1 0; use 3 3; use 5 0; use 5 4; change 0 4; change 7 -3;"
            + "forbid 1 true; forbid 5 true; give 0 0; give 1 0; give 4 0; give 8 0; give 3 2; give 5 3; give 6 4;"
            + "die 4; pass 5; change 0 6; draft g-h";

    /**
     * By words, with three of four volumes printed: promises that are told, open, of what is not printed as yet and of
     * none; what was struck and came later; contradictions in both sets; articles for the next supplement; a row of
     * four to write; a dead contributor who owns errata.
     */
    static final String EVENTFUL = "rule true; volume e 40; volume h 30; volume l 20;"
            + "contributor 1; contributor 2; contributor 3; contributor 9; quarrel 1 2;"
            + "under 9 4; under 4 1; under 7 4; change 0 1; change 1 2; change 2 3;"
            + "make a_b 9 3; link 0 ab; link 0 h; link 0 l; link 0 m-n; use 0 0; use 0 1;"
            + "make b 4 1; link 1 a-b; link 1 g; link 1 k; link 1 z; use 1 0; use 1 2; forbid 1 true;"
            + "make c 7 0; link 2 bb; link 2 a_b; make f 1 5; link 3 l; link 3 d; use 3 0; use 3 2;"
            + "make j 9 2; use 4 1; use 4 2; forbid 4 true; make ab 4 4; use 5 0; use 5 1;"
            + "make d 2 2; link 6 e; link 6 m; use 6 3; forbid 6 true; make i 0 2; use 7 0;"
            + "give 0 0; give 1 1; give 3 1; give 4 3; give 7 3; pass 17; give 5 3; give 6 3; print 0;"
            + "change 0 5; print 1; pass 2; supplement; change 0 6; change 1 7; change 2 8; print 2;"
            + "change 0 9; change 3 4; pass 2; volume r 25;"
            + "make e 3 0; link 8 d_; link 8 a_b; link 8 n; make m_n 5 3; link 9 bb; link 9 n; use 9 0; give 9 3;"
            + "pass 3; make mn 5 6; make n 6 1; make o 6 9; make p 8 2; make q 8 1; make r 9 0; make s 1 4;"
            + "use 14 4; link 14 o; link 16 t; forbid 10 true; give 10 1; give 11 1; give 12 1; give 13 1; give 14 0;"
            + "die 0; pass 1; draft ra";

    private States() {
    }

    private static String full() {
        StringBuilder text = new StringBuilder("volume f 99; volume m 98; volume t 97; volume w 96;");
        for (int i = 0; i < 6; i++) {
            text.append("contributor ").append(i + 4).append(';');
        }
        for (int i = 0; i < 24; i++) {
            text.append("make ").append((char) ('a' + i)).append(' ').append(i % 10).append(' ').append(i % 10)
                    .append(';');
            for (int r = 1; r <= 4; r++) {
                text.append("link ").append(i).append(' ').append((char) ('a' + (i + 5 * r) % 26)).append(';');
            }
        }
        for (int i = 1; i < 8; i++) {
            text.append("use ").append(i).append(' ').append(i).append(";use ").append(i).append(" 0;");
        }
        for (int i = 1; i < 7; i++) {
            text.append("give ").append(i).append(' ').append(i - 1).append(';');
        }
        return text.append("draft ab-cd_e-;").toString();
    }
}
