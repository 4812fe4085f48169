/** Tests promise by promise: ordinary inputs, the edges that the document names, and wrong inputs. */
public final class PromisesTest extends Checks {
    public static void main(String[] args) {
        promise1New();
        promise2Sign();
        promise3Erase();
        promise4Rule();
        promise5Article();
        promise6Under();
        promise7Refer();
        promise8Use();
        promise9Change();
        promise10Forbid();
        promise11Volume();
        promise12Contributor();
        promise13Quarrel();
        promise14Give();
        promise14GiveAmongEnemies();
        promise15Die();
        promise16Pass();
        promise17Print();
        promise18Supplement();
        promise18SupplementOfPromises();
        promise19Month();
        promise20At();
        promise20AtByWords();
        promise21State();
        promise21Volume();
        promise21Columns();
        promise21Writing();
        promise22Struck();
        promise23Errata();
        promise24Open();
        promise25Contradictions();
        promise26ReadAnew();
        promise27Synopsis();
        allAtTheirMost();
        end();
    }

    private static void promise1New() {
        CircleOfLeaves x = new CircleOfLeaves();
        is("month of a new one", x.month(), 0);
        is("at of a new one", x.at(0), CircleOfLeaves.NONE);
        is("struck of a new one", x.struck(), 0);
        is("open of a new one", x.open(true) + x.open(false), 0);
        is("contradictions of a new one", x.contradictions(true) + x.contradictions(false), 0);
        is("readAnew of a new one", x.readAnew(true) + x.readAnew(false), 0);
        is("erase of a new one", x.erase(), 0);
        is("rule of a new one", x.rule(false), false);
        for (int i = 0; i < 10; i++) {
            is("synopsis of a new one", x.synopsis(i), 0);
            is("under of a new one", x.under(i, CircleOfLeaves.NONE), CircleOfLeaves.NONE);
        }
        for (int i = 0; i < 8; i++) {
            is("fact of a new one", x.change(i, 0), 0);
        }
        isThrown("article of a new one", BOUNDS, () -> x.about(0, 0));
        isThrown("contributor of a new one", BOUNDS, () -> x.errata(0));
        isThrown("volume of a new one", BOUNDS, () -> x.print(0));
    }

    private static void promise2Sign() {
        CircleOfLeaves x = new CircleOfLeaves();
        for (char wrong : new char[] {'A', 'Z', '`', '{', '_', '0', 0, 9, 255, 65535, ',', '.', '!'}) {
            isThrown("sign " + (int) wrong, ARGUMENT, () -> x.sign(wrong));
        }
        String row = "az -ymb ";
        for (int i = 0; i < 8; i++) {
            is("sign", x.sign(row.charAt(i)), i + 1);
        }
        isThrown("ninth sign", STATE, () -> x.sign('a'));
        isThrown("ninth blank", STATE, () -> x.sign(' '));
        isThrown("ninth, wrong sign", ARGUMENT, () -> x.sign('A'));
        is("erase after refusals", x.erase(), 8);
    }

    private static void promise3Erase() {
        CircleOfLeaves x = new CircleOfLeaves();
        draft(x, "ab c");
        is("erase", x.erase(), 4);
        is("erase again", x.erase(), 0);
        isThrown("article of what was erased", STATE, () -> x.article(0, 0));
        draft(x, "-");
        is("erase a hyphen", x.erase(), 1);
        draft(x, "b");
        is("after an erasure", x.article(0, 0), 0);
        is("the draft is empty", x.erase(), 0);
    }

    private static void promise4Rule() {
        CircleOfLeaves x = new CircleOfLeaves();
        x.volume('m', 5);
        x.volume('z', 5);
        is("rule by words", x.rule(true), false);
        is("rule by words again", x.rule(true), true);
        is("rule by letters", x.rule(false), true);
        is("rule by letters again", x.rule(false), false);
        x.print(0);
        isThrown("rule with a volume printed", STATE, () -> x.rule(true));
        isThrown("the same rule with a volume printed", STATE, () -> x.rule(false));
    }

    private static void promise5Article() {
        CircleOfLeaves x = new CircleOfLeaves();
        isThrown("article without a draft", STATE, () -> x.article(0, 0));
        isThrown("worth 10 without a draft", ARGUMENT, () -> x.article(0, 10));
        isThrown("subject 10, worth 10", BOUNDS, () -> x.article(10, 10));
        draft(x, " - ");
        isThrown("article without a letter", STATE, () -> x.article(0, 0));
        is("draft after a refusal", x.erase(), 3);
        draft(x, " a");
        isThrown("subject -1", BOUNDS, () -> x.article(-1, 0));
        isThrown("subject 10", BOUNDS, () -> x.article(10, 0));
        isThrown("worth -1", ARGUMENT, () -> x.article(0, -1));
        isThrown("worth 10", ARGUMENT, () -> x.article(9, 10));
        is("article", x.article(9, 9), 0);
        is("draft after an article", x.erase(), 0);
        for (int i = 1; i < 24; i++) {
            is("article", make(x, "abcdefgh".substring(i % 8), i % 10, i % 10), i);
        }
        draft(x, "z");
        isThrown("article 24", STATE, () -> x.article(0, 0));
        isThrown("article 24, wrong worth", ARGUMENT, () -> x.article(0, 10));
        isThrown("article 24, wrong subject", BOUNDS, () -> x.article(10, 10));
        is("draft after article 24", x.erase(), 1);
    }

    private static void promise6Under() {
        CircleOfLeaves x = new CircleOfLeaves();
        is("under", x.under(5, 3), CircleOfLeaves.NONE);
        is("under again", x.under(5, 0), 3);
        is("under none", x.under(5, CircleOfLeaves.NONE), 0);
        is("under after none", x.under(5, 4), CircleOfLeaves.NONE);
        is("9 under 8", x.under(9, 8), CircleOfLeaves.NONE);
        is("0 under none", x.under(0, CircleOfLeaves.NONE), CircleOfLeaves.NONE);
        isThrown("under itself", ARGUMENT, () -> x.under(5, 5));
        isThrown("under a higher one", ARGUMENT, () -> x.under(5, 6));
        isThrown("0 under 0", ARGUMENT, () -> x.under(0, 0));
        isThrown("subject 10", BOUNDS, () -> x.under(10, 3));
        isThrown("subject -1", BOUNDS, () -> x.under(-1, -1));
        isThrown("above 10", BOUNDS, () -> x.under(5, 10));
        isThrown("above -2", BOUNDS, () -> x.under(5, -2));
        is("after refusals", x.under(5, 1), 4);
    }

    private static void promise7Refer() {
        CircleOfLeaves x = new CircleOfLeaves();
        x.volume('z', 5);
        isThrown("refer of no article, no draft", BOUNDS, () -> x.refer(0));
        make(x, "a", 0, 0);
        make(x, "b", 0, 3);
        isThrown("refer without a draft", STATE, () -> x.refer(0));
        draft(x, "- ");
        isThrown("refer without a letter", STATE, () -> x.refer(0));
        is("draft after a refusal", x.erase(), 2);
        isThrown("refer of article -1", BOUNDS, () -> x.refer(-1));
        isThrown("refer of article 2", BOUNDS, () -> x.refer(2));
        for (int i = 1; i <= 4; i++) {
            is("refer", refer(x, 0, "q"), i);
            is("draft after refer", x.erase(), 0);
        }
        draft(x, "q");
        isThrown("fifth reference", STATE, () -> x.refer(0));
        is("draft after the fifth", x.erase(), 1);
        is("refer of another", refer(x, 1, "r"), 1);
        x.print(0);
        draft(x, "s");
        isThrown("refer of a printed one", STATE, () -> x.refer(0));
        is("refer of one that was left out", x.refer(1), 2);
    }

    private static void promise8Use() {
        CircleOfLeaves x = new CircleOfLeaves();
        x.volume('z', 5);
        x.contributor(9);
        make(x, "a", 0, 1);
        make(x, "b", 0, 0);
        is("use", x.use(0, 7), true);
        is("use again", x.use(0, 7), false);
        is("use of another fact", x.use(0, 0), true);
        isThrown("use of fact 8", BOUNDS, () -> x.use(0, 8));
        isThrown("use of fact -1", BOUNDS, () -> x.use(0, -1));
        isThrown("use by article 2", BOUNDS, () -> x.use(2, 0));
        isThrown("use by article -1", BOUNDS, () -> x.use(-1, 0));
        isThrown("use by a blind one", STATE, () -> x.use(1, 0));
        isThrown("use by a blind one of fact 8", BOUNDS, () -> x.use(1, 8));
        write(x, 0, 0);
        is("use by a written one", x.use(0, 1), true);
        x.print(0);
        isThrown("use by a printed one", STATE, () -> x.use(0, 2));
        isThrown("use by a printed one, known", STATE, () -> x.use(0, 7));
        isThrown("use by a printed one of fact 8", BOUNDS, () -> x.use(0, 8));
    }

    private static void promise9Change() {
        CircleOfLeaves x = new CircleOfLeaves();
        is("change", x.change(0, 5), 0);
        is("change again", x.change(0, Integer.MIN_VALUE), 5);
        is("change a third time", x.change(0, Integer.MAX_VALUE), Integer.MIN_VALUE);
        is("change of fact 7", x.change(7, -1), 0);
        is("change of fact 7 again", x.change(7, -1), -1);
        isThrown("fact 8", BOUNDS, () -> x.change(8, 1));
        isThrown("fact -1", BOUNDS, () -> x.change(-1, 1));
    }

    private static void promise10Forbid() {
        CircleOfLeaves x = new CircleOfLeaves();
        x.volume('z', 5);
        make(x, "a", 0, 0);
        make(x, "b", 0, 1);
        is("forbid", x.forbid(0, true), false);
        is("forbid again", x.forbid(0, true), true);
        is("allow", x.forbid(0, false), true);
        is("allow again", x.forbid(0, false), false);
        isThrown("forbid article 2", BOUNDS, () -> x.forbid(2, true));
        isThrown("forbid article -1", BOUNDS, () -> x.forbid(-1, true));
        x.print(0);
        isThrown("forbid a printed one", STATE, () -> x.forbid(0, true));
        isThrown("allow a printed one", STATE, () -> x.forbid(0, false));
        is("forbid one that was left out", x.forbid(1, true), false);
    }

    private static void promise11Volume() {
        CircleOfLeaves x = new CircleOfLeaves();
        for (char wrong : new char[] {'A', ' ', '-', '`', '{', 0, 65535}) {
            isThrown("volume to " + (int) wrong, ARGUMENT, () -> x.volume(wrong, 5));
        }
        isThrown("0 columns", ARGUMENT, () -> x.volume('c', 0));
        isThrown("100 columns", ARGUMENT, () -> x.volume('c', 100));
        is("volume", x.volume('c', 1), 0);
        isThrown("the same letter", ARGUMENT, () -> x.volume('c', 5));
        isThrown("a letter ahead", ARGUMENT, () -> x.volume('b', 5));
        is("volume", x.volume('d', 99), 1);
        is("volume", x.volume('m', 5), 2);
        is("volume", x.volume('n', 5), 3);
        isThrown("volume 4", STATE, () -> x.volume('z', 5));
        isThrown("volume 4, wrong columns", ARGUMENT, () -> x.volume('z', 0));
        isThrown("volume 4, wrong letter", ARGUMENT, () -> x.volume('n', 5));
        make(x, "z", 0, 1);
        is("refused volumes are none", x.about(0, 1), CircleOfLeaves.NONE);
        CircleOfLeaves y = new CircleOfLeaves();
        is("a first volume to a", y.volume('a', 5), 0);
        y.print(0);
        is("a volume behind a printed one", y.volume('z', 5), 1);
        isThrown("a volume behind z", ARGUMENT, () -> y.volume('z', 5));
    }

    private static void promise12Contributor() {
        CircleOfLeaves x = new CircleOfLeaves();
        isThrown("pace 0", ARGUMENT, () -> x.contributor(0));
        isThrown("pace 10", ARGUMENT, () -> x.contributor(10));
        isThrown("pace -1", ARGUMENT, () -> x.contributor(-1));
        for (int i = 0; i < 6; i++) {
            is("contributor", x.contributor(i == 0 ? 1 : 9), i);
        }
        isThrown("contributor 6", STATE, () -> x.contributor(1));
        isThrown("contributor 6, wrong pace", ARGUMENT, () -> x.contributor(0));
    }

    private static void promise13Quarrel() {
        CircleOfLeaves x = new CircleOfLeaves();
        x.contributor(1);
        x.contributor(1);
        x.contributor(1);
        is("quarrel", x.quarrel(0, 1), false);
        is("quarrel again", x.quarrel(0, 1), true);
        is("quarrel the other way", x.quarrel(1, 0), true);
        is("another quarrel", x.quarrel(2, 0), false);
        is("that quarrel the other way", x.quarrel(0, 2), true);
        is("a third quarrel", x.quarrel(1, 2), false);
        isThrown("quarrel alone", ARGUMENT, () -> x.quarrel(1, 1));
        isThrown("quarrel of 3", BOUNDS, () -> x.quarrel(3, 0));
        isThrown("quarrel with 3", BOUNDS, () -> x.quarrel(0, 3));
        isThrown("quarrel of -1", BOUNDS, () -> x.quarrel(-1, 0));
        isThrown("quarrel with -1", BOUNDS, () -> x.quarrel(0, -1));
        isThrown("quarrel of 3 alone", BOUNDS, () -> x.quarrel(3, 3));
        x.die(0);
        is("quarrel with a dead one", x.quarrel(0, 1), true);
    }

    private static void promise14Give() {
        CircleOfLeaves x = new CircleOfLeaves();
        x.volume('b', 9);
        x.volume('m', 9);
        x.contributor(9);
        x.contributor(1);
        make(x, "a", 0, 1);
        make(x, "b", 0, 0);
        make(x, "n", 0, 1);
        make(x, "c", 0, 1);
        make(x, "d", 0, 1);
        isThrown("give article 5", BOUNDS, () -> x.give(5, 0));
        isThrown("give article -1", BOUNDS, () -> x.give(-1, 0));
        isThrown("give to 2", BOUNDS, () -> x.give(0, 2));
        isThrown("give to -1", BOUNDS, () -> x.give(0, -1));
        isThrown("give a blind one", STATE, () -> x.give(1, 0));
        isThrown("give a blind one to 2", BOUNDS, () -> x.give(1, 2));
        isThrown("give one of no volume", STATE, () -> x.give(2, 0));
        is("give", x.give(3, 0), 1);
        is("give another", x.give(4, 0), 2);
        isThrown("give again", STATE, () -> x.give(3, 0));
        isThrown("give again to another", STATE, () -> x.give(4, 1));
        x.print(0);
        isThrown("give one of a printed volume", STATE, () -> x.give(0, 1));
        x.pass(1);
        isThrown("give a written one", STATE, () -> x.give(3, 1));
        x.volume('z', 9);
        x.die(1);
        isThrown("give to a dead one", STATE, () -> x.give(2, 1));
        is("give one of a new volume", x.give(2, 0), 2);
    }

    private static void promise14GiveAmongEnemies() {
        CircleOfLeaves x = new CircleOfLeaves();
        x.volume('z', 9);
        for (int i = 0; i < 4; i++) {
            x.contributor(9);
        }
        make(x, "a-b", 0, 1);
        make(x, "ab", 0, 1);
        make(x, "c", 0, 1);
        make(x, "d", 0, 1);
        refer(x, 2, "a b");
        refer(x, 1, "d");
        x.give(2, 0);
        x.quarrel(1, 0);
        x.quarrel(2, 3);
        isThrown("an enemy's article refers to it", STATE, () -> x.give(0, 1));
        isThrown("an enemy's article refers to one alike", STATE, () -> x.give(1, 1));
        is("refused ones are not given", x.about(0, 3), CircleOfLeaves.NONE);
        x.rule(true);
        is("no more alike", x.give(1, 1), 1);
        isThrown("alike by words", STATE, () -> x.give(0, 1));
        is("others have not quarrelled", x.give(0, 2), 1);
        x.pass(9);
        isThrown("an enemy has written what refers to it", STATE, () -> x.give(3, 0));
        x.die(1);
        isThrown("a dead enemy has written it", STATE, () -> x.give(3, 0));
        is("no enemy", x.give(3, 3), 1);

        CircleOfLeaves y = new CircleOfLeaves();
        y.volume('z', 9);
        y.contributor(9);
        y.contributor(9);
        make(y, "a", 0, 1);
        make(y, "b", 0, 1);
        refer(y, 0, "b");
        y.quarrel(0, 1);
        y.give(1, 1);
        isThrown("it refers to an enemy's article", STATE, () -> y.give(0, 0));
        is("one's own articles", y.give(0, 1), 2);
        make(y, "c", 0, 1);
        refer(y, 2, "a");
        isThrown("it refers to the first article, an enemy's", STATE, () -> y.give(2, 0));
        y.die(1);
        is("given back, without a contributor", y.give(0, 0), 1);
    }

    private static void promise15Die() {
        CircleOfLeaves x = new CircleOfLeaves();
        x.volume('z', 9);
        x.contributor(9);
        x.contributor(9);
        for (int i = 0; i < 3; i++) {
            make(x, "a", 0, 1);
            x.give(i, 0);
        }
        x.pass(1);
        isThrown("die of 2", BOUNDS, () -> x.die(2));
        isThrown("die of -1", BOUNDS, () -> x.die(-1));
        is("die", x.die(0), 2);
        isThrown("die again", STATE, () -> x.die(0));
        is("a written one stays", x.about(0, 3), 0);
        is("a written one stays written", x.about(0, 0), CircleOfLeaves.WRITTEN);
        is("a written one keeps its month", x.about(0, 4), 1);
        for (int i = 1; i < 3; i++) {
            is("given back", x.about(i, 0), CircleOfLeaves.PLANNED);
            is("given back, by nobody", x.about(i, 3), CircleOfLeaves.NONE);
            is("given back, not begun", x.about(i, 4), CircleOfLeaves.NONE);
        }
        is("nothing is written by a dead one", x.pass(50), 0);
        is("given anew", x.give(1, 1), 1);
        is("begun anew", x.about(1, 4), 52);
        is("written once, by the other", x.pass(1), 1);
        is("another one given anew", x.give(2, 1), 1);
        is("die with one to write", x.die(1), 1);
        CircleOfLeaves y = new CircleOfLeaves();
        y.contributor(1);
        is("die with nothing to write", y.die(0), 0);
    }

    private static void promise16Pass() {
        CircleOfLeaves x = new CircleOfLeaves();
        x.volume('z', 10);
        x.contributor(2);
        x.contributor(9);
        make(x, "a", 0, 5);
        make(x, "b", 0, 5);
        make(x, "c", 0, 5);
        isThrown("0 months", ARGUMENT, () -> x.pass(0));
        isThrown("-1 months", ARGUMENT, () -> x.pass(-1));
        isThrown("51 months", ARGUMENT, () -> x.pass(51));
        is("no month has gone by", x.month(), 0);
        x.give(0, 0);
        x.give(1, 0);
        x.give(2, 1);
        is("4 columns at 2", x.about(0, 4), 2);
        is("one month", x.pass(1), 1);
        is("the quick one", x.about(2, 4), 1);
        is("the second month", x.pass(1), 1);
        is("3 columns at 2, begun in month 2", x.about(1, 4), 4);
        is("fifty months", x.pass(50), 1);
        is("nothing is left", x.pass(50), 0);
        is("month", x.month(), 102);
    }

    private static void promise17Print() {
        CircleOfLeaves x = new CircleOfLeaves();
        x.volume('b', 9);
        x.volume('m', 9);
        x.contributor(9);
        make(x, "a", 0, 1);
        make(x, "b", 0, 0);
        make(x, "bb", 0, 1);
        make(x, "c", 0, 0);
        make(x, "n", 0, 0);
        isThrown("print 2", BOUNDS, () -> x.print(2));
        isThrown("print -1", BOUNDS, () -> x.print(-1));
        isThrown("print 1 ahead of 0", STATE, () -> x.print(1));
        write(x, 0, 0);
        x.give(2, 0);
        x.forbid(0, true);
        is("print", x.print(0), 2);
        isThrown("print again", STATE, () -> x.print(0));
        is("a forbidden one is printed", x.about(0, 0), CircleOfLeaves.PRINTED);
        is("a blind one is printed", x.about(1, 0), CircleOfLeaves.PRINTED);
        is("one without text is left out", x.about(2, 0), CircleOfLeaves.GIVEN);
        is("one of the next volume", x.about(3, 0), CircleOfLeaves.PLANNED);
        x.pass(1);
        is("it goes on being written", x.about(2, 0), CircleOfLeaves.WRITTEN);
        is("print the next, without what was left out", x.print(1), 1);
        is("left out", x.about(2, 0), CircleOfLeaves.WRITTEN);
        is("of no volume", x.about(4, 0), CircleOfLeaves.PLANNED);
        x.volume('z', 9);
        is("print a later one", x.print(2), 1);
    }

    private static void promise18Supplement() {
        CircleOfLeaves x = new CircleOfLeaves();
        isThrown("supplement to nothing", STATE, () -> x.supplement());
        x.volume('b', 9);
        isThrown("supplement to what is planned", STATE, () -> x.supplement());
        x.volume('z', 9);
        x.contributor(9);
        make(x, "a", 0, 1);
        make(x, "b", 0, 1);
        make(x, "c", 0, 0);
        x.use(0, 0);
        x.use(0, 1);
        x.use(1, 0);
        write(x, 0, 0);
        x.give(1, 0);
        x.print(0);
        is("nothing to add, nothing to tell", x.supplement(), 0);
        x.pass(2);
        x.change(0, 5);
        is("one to add, one to tell", x.supplement(), 101);
        is("it is told", x.supplement(), 0);
        is("it is printed", x.about(1, 0), CircleOfLeaves.PRINTED);
        is("one of a volume that is not printed", x.about(2, 0), CircleOfLeaves.PLANNED);
        x.change(0, 6);
        x.change(1, 1);
        x.change(2, 1);
        is("three to tell, of those that are used", x.supplement(), 3);
        x.change(0, 7);
        x.change(0, 6);
        is("changed back ahead of the supplement", x.supplement(), 0);
        make(x, "aa", 0, 0);
        make(x, "ab", 0, 0);
        is("two blind ones, made late", x.supplement(), 200);
        x.print(1);
        is("all is printed", x.supplement(), 0);
    }

    private static void promise18SupplementOfPromises() {
        CircleOfLeaves x = new CircleOfLeaves();
        x.volume('b', 9);
        make(x, "a", 0, 0);
        make(x, "b", 0, 0);
        refer(x, 0, "z");
        refer(x, 0, "-z");
        refer(x, 0, "y");
        refer(x, 1, "z");
        x.forbid(1, true);
        x.print(0);
        is("promises of no volume", x.supplement(), 0);
        x.volume('z', 9);
        is("promises of a planned volume", x.supplement(), 0);
        make(x, "y", 0, 0);
        x.print(1);
        is("promises to be told", x.open(true), 3);
        is("promises that are not there", x.supplement(), 3);
        is("each once", x.supplement(), 0);
        make(x, "z", 0, 0);
        is("what was told is added all the same", x.supplement(), 100);

        CircleOfLeaves y = new CircleOfLeaves();
        y.volume('z', 9);
        y.contributor(9);
        make(y, "a", 0, 0);
        make(y, "b", 0, 1);
        make(y, "c", 0, 1);
        refer(y, 1, "c");
        refer(y, 1, "d");
        refer(y, 2, "b");
        y.give(1, 0);
        y.give(2, 0);
        y.print(0);
        y.pass(9);
        is("added together", y.supplement(), 200);
        is("references among the added stand, others are struck", y.struck(), 1);

        CircleOfLeaves z = new CircleOfLeaves();
        z.volume('a', 9);
        z.volume('b', 9);
        make(z, "a", 0, 0);
        refer(z, 0, "b");
        z.print(0);
        z.print(1);
        make(z, "b", 0, 0);
        is("a promise is kept in the supplement", z.supplement(), 100);
        is("and is not open", z.open(true), 0);
    }

    private static void promise19Month() {
        CircleOfLeaves x = new CircleOfLeaves();
        is("month", x.month(), 0);
        x.pass(1);
        is("month 1", x.month(), 1);
        x.pass(50);
        is("month 51", x.month(), 51);
    }

    private static void promise20At() {
        CircleOfLeaves x = new CircleOfLeaves();
        isThrown("place -1", BOUNDS, () -> x.at(-1));
        isThrown("a place far below", BOUNDS, () -> x.at(Integer.MIN_VALUE));
        make(x, "b", 0, 0);
        make(x, "ab c", 0, 0);
        make(x, "abc", 0, 0);
        make(x, "ab", 0, 0);
        make(x, "a-z", 0, 0);
        make(x, " - abb", 0, 0);
        is("by letters", places(x, 6), "[3, 5, 1, 2, 4, 0]");
        is("no such place as yet", x.at(6), CircleOfLeaves.NONE);
        is("a place far above", x.at(Integer.MAX_VALUE), CircleOfLeaves.NONE);
        make(x, "aba", 0, 0);
        is("one more", places(x, 8), "[3, 6, 5, 1, 2, 4, 0, -1]");
    }

    private static void promise20AtByWords() {
        CircleOfLeaves x = new CircleOfLeaves();
        x.rule(true);
        make(x, "ab", 0, 0);
        make(x, "a b", 0, 0);
        make(x, "a-b", 0, 0);
        make(x, "a", 0, 0);
        make(x, "a ", 0, 0);
        make(x, "a  b", 0, 0);
        make(x, "-b", 0, 0);
        make(x, "  c", 0, 0);
        make(x, "a a", 0, 0);
        is("by words", places(x, 9), "[7, 6, 3, 4, 5, 8, 1, 2, 0]");
        x.rule(false);
        is("by letters", places(x, 9), "[3, 4, 8, 0, 1, 2, 5, 6, 7]");
    }

    private static void promise21State() {
        CircleOfLeaves x = new CircleOfLeaves();
        x.volume('z', 9);
        x.contributor(5);
        make(x, "a", 0, 1);
        make(x, "b", 0, 0);
        isThrown("question 5", ARGUMENT, () -> x.about(0, 5));
        isThrown("question -1", ARGUMENT, () -> x.about(0, -1));
        isThrown("article 2", BOUNDS, () -> x.about(2, 0));
        isThrown("article 2, question 5", BOUNDS, () -> x.about(2, 5));
        isThrown("article -1", BOUNDS, () -> x.about(-1, 0));
        is("planned", x.about(0, 0), CircleOfLeaves.PLANNED);
        x.give(0, 0);
        is("given", x.about(0, 0), CircleOfLeaves.GIVEN);
        x.pass(1);
        is("still given", x.about(0, 0), CircleOfLeaves.GIVEN);
        x.pass(1);
        is("written", x.about(0, 0), CircleOfLeaves.WRITTEN);
        is("blind, planned", x.about(1, 0), CircleOfLeaves.PLANNED);
        x.print(0);
        is("printed", x.about(0, 0), CircleOfLeaves.PRINTED);
        is("blind, printed", x.about(1, 0), CircleOfLeaves.PRINTED);
    }

    private static void promise21Volume() {
        CircleOfLeaves x = new CircleOfLeaves();
        make(x, "c", 0, 1);
        make(x, "- d", 0, 1);
        make(x, "az", 0, 1);
        is("no volume", x.about(0, 1), CircleOfLeaves.NONE);
        x.volume('b', 9);
        is("behind the last letter", x.about(0, 1), CircleOfLeaves.NONE);
        is("ahead of the last letter", x.about(2, 1), 0);
        x.volume('c', 9);
        is("at the last letter", x.about(0, 1), 1);
        is("by its first letter", x.about(1, 1), CircleOfLeaves.NONE);
        x.volume('z', 9);
        is("the first volume that has it", x.about(0, 1), 1);
        is("by its first letter, in the third", x.about(1, 1), 2);
    }

    private static void promise21Columns() {
        CircleOfLeaves x = new CircleOfLeaves();
        make(x, "b", 0, 1);
        make(x, "a b", 0, 1);
        make(x, "ab", 0, 1);
        make(x, "a", 0, 0);
        is("without a volume", about(x, 2, 4), "[0, 0, 0, 0]");
        x.volume('m', 5);
        is("columns left, by letters", about(x, 2, 4), "[1, 2, 2, 0]");
        x.rule(true);
        make(x, " bb", 0, 1);
        is("columns left, by words", about(x, 2, 5), "[1, 1, 1, 0, 2]");
        make(x, "c", 0, 9);
        is("greatest remainders", about(x, 2, 6), "[0, 0, 0, 0, 1, 4]");
        make(x, "z", 0, 9);
        is("another volume's do not count", about(x, 2, 7), "[0, 0, 0, 0, 1, 4, 0]");
        x.print(0);
        make(x, "a", 0, 9);
        is("also for those that are printed", about(x, 2, 8), "[0, 0, 0, 0, 1, 2, 0, 2]");

        CircleOfLeaves y = new CircleOfLeaves();
        y.volume('z', 99);
        make(y, "a", 0, 0);
        is("all are blind", y.about(0, 2), 0);
        make(y, "b", 0, 9);
        is("all of the budget", about(y, 2, 2), "[0, 99]");
        make(y, "c", 0, 3);
        make(y, "d", 0, 8);
        is("shares", about(y, 2, 4), "[0, 44, 15, 40]");
    }

    private static void promise21Writing() {
        CircleOfLeaves x = new CircleOfLeaves();
        x.volume('z', 10);
        x.contributor(3);
        make(x, "a", 0, 5);
        make(x, "b", 0, 5);
        is("by nobody", x.about(0, 3), CircleOfLeaves.NONE);
        is("not begun", x.about(0, 4), CircleOfLeaves.NONE);
        x.pass(7);
        x.give(0, 0);
        x.give(1, 0);
        is("given to 0", x.about(1, 3), 0);
        is("5 columns at 3, begun in month 7", x.about(0, 4), 9);
        is("the next is not begun", x.about(1, 4), CircleOfLeaves.NONE);
        make(x, "c", 0, 9);
        is("columns of now", x.about(0, 2), 3);
        is("begun with the columns of then", x.about(0, 4), 9);
        x.pass(2);
        is("was written in month 9", x.about(0, 4), 9);
        is("3 columns at 3 are shared anew", x.about(1, 2), 2);
        is("begun in month 9", x.about(1, 4), 10);
        x.pass(5);
        x.print(0);
        is("printed, by 0", x.about(0, 3), 0);
        is("printed, was written", x.about(1, 4), 10);
        make(x, "d", 0, 0);
        is("blind, by nobody", x.about(3, 3), CircleOfLeaves.NONE);
        is("blind, never begun", x.about(3, 4), CircleOfLeaves.NONE);

        CircleOfLeaves y = new CircleOfLeaves();
        y.volume('z', 1);
        y.contributor(9);
        make(y, "a", 0, 9);
        make(y, "b", 0, 1);
        y.give(1, 0);
        is("0 columns take a month", y.about(1, 4), 1);
    }

    private static void promise22Struck() {
        CircleOfLeaves x = new CircleOfLeaves();
        x.volume('b', 9);
        x.volume('m', 9);
        x.contributor(1);
        make(x, "a", 0, 0);
        make(x, "b", 0, 1);
        make(x, "c", 0, 0);
        refer(x, 0, "b");
        refer(x, 0, "a");
        refer(x, 0, "x");
        refer(x, 0, "c");
        refer(x, 2, "b");
        refer(x, 2, "-a");
        refer(x, 2, "d");
        refer(x, 1, "q");
        x.forbid(2, true);
        is("nothing is struck as yet", x.struck(), 0);
        x.give(1, 0);
        x.print(0);
        is("one to what was left out", x.struck(), 1);
        x.print(1);
        is("of a forbidden one: to what was left out, and to none", x.struck(), 3);
        make(x, "d", 0, 0);
        refer(x, 3, "e");
        x.supplement();
        is("in a supplement", x.struck(), 4);
        x.supplement();
        is("what is struck stays struck, once", x.struck(), 4);
    }

    private static void promise23Errata() {
        CircleOfLeaves x = new CircleOfLeaves();
        x.volume('m', 9);
        x.contributor(9);
        x.contributor(9);
        make(x, "a", 0, 1);
        make(x, "b", 0, 1);
        x.use(0, 0);
        x.use(0, 1);
        x.use(1, 0);
        refer(x, 0, "z");
        x.forbid(1, true);
        write(x, 0, 0);
        write(x, 1, 1);
        x.print(0);
        x.volume('z', 9);
        x.print(1);
        x.change(0, 1);
        x.change(1, 1);
        is("none are told as yet", x.errata(0), 0);
        x.die(0);
        is("three of facts, one of a promise", x.supplement(), 4);
        is("a dead one owns them too", x.errata(0), 2);
        is("of a forbidden one", x.errata(1), 1);
        x.change(0, 2);
        x.supplement();
        is("more", x.errata(0), 3);
        is("more of a forbidden one", x.errata(1), 2);
        isThrown("errata of 2", BOUNDS, () -> x.errata(2));
        isThrown("errata of -1", BOUNDS, () -> x.errata(-1));
    }

    private static void promise24Open() {
        CircleOfLeaves x = new CircleOfLeaves();
        x.volume('b', 9);
        make(x, "a", 0, 0);
        make(x, "b", 0, 0);
        refer(x, 0, "n");
        refer(x, 0, "n");
        refer(x, 0, "o");
        refer(x, 1, "n");
        refer(x, 1, "p");
        x.forbid(1, true);
        x.print(0);
        is("promises of no volume", x.open(true), 0);
        x.volume('z', 9);
        make(x, "o", 0, 0);
        make(x, "p", 0, 0);
        x.forbid(2, true);
        is("promises of a planned volume", x.open(true), 0);
        x.print(1);
        is("to a forbidden one's headword they lead", x.open(false), 2);
        is("in secret copies", x.open(true), 3);
        make(x, "n", 0, 0);
        is("one that is not printed does not help", x.open(true), 3);
        x.forbid(4, true);
        x.supplement();
        is("kept in open copies", x.open(false), 0);
        is("kept in secret copies", x.open(true), 0);

        CircleOfLeaves y = new CircleOfLeaves();
        y.volume('b', 9);
        y.volume('z', 9);
        make(y, "a", 0, 0);
        refer(y, 0, "n");
        y.print(0);
        y.print(1);
        is("open", y.open(false), 1);
        y.supplement();
        is("told", y.open(false), 0);
    }

    private static void promise25Contradictions() {
        CircleOfLeaves x = new CircleOfLeaves();
        x.volume('b', 9);
        x.volume('z', 9);
        x.contributor(9);
        make(x, "a", 0, 1);
        make(x, "b", 0, 1);
        make(x, "n", 0, 1);
        make(x, "o", 0, 1);
        for (int i = 0; i < 4; i++) {
            x.use(i, 0);
            x.use(i, 7);
            write(x, i, 0);
        }
        x.use(0, 3);
        x.forbid(3, true);
        x.print(0);
        x.change(0, 1);
        x.change(3, 1);
        is("one volume", x.contradictions(true), 0);
        x.print(1);
        is("two volumes", x.contradictions(false), 1);
        x.change(7, 4);
        is("a change alone is not printed", x.contradictions(true), 1);
        is("errata", x.supplement(), 7);
        is("told", x.contradictions(true), 0);

        CircleOfLeaves y = new CircleOfLeaves();
        y.volume('b', 9);
        y.volume('z', 9);
        y.contributor(9);
        make(y, "a", 0, 1);
        make(y, "n", 0, 1);
        y.use(0, 5);
        y.use(1, 5);
        write(y, 0, 0);
        write(y, 1, 0);
        y.forbid(1, true);
        y.print(0);
        y.change(5, -9);
        y.print(1);
        is("in open copies", y.contradictions(false), 0);
        is("in secret copies", y.contradictions(true), 1);
    }

    private static void promise26ReadAnew() {
        CircleOfLeaves x = new CircleOfLeaves();
        x.volume('b', 9);
        x.volume('z', 9);
        x.contributor(9);
        make(x, "a", 0, 1);
        make(x, "n", 0, 1);
        make(x, "b", 0, 1);
        for (int i = 0; i < 3; i++) {
            x.use(i, 2);
            write(x, i, 0);
        }
        refer(x, 0, "q");
        refer(x, 2, "r");
        refer(x, 2, "s");
        x.forbid(2, true);
        x.print(0);
        x.change(2, 8);
        is("one volume", x.readAnew(true), 0);
        x.print(1);
        is("open copies", x.readAnew(false), 101);
        is("secret copies", x.readAnew(true), 301);
        x.supplement();
        is("open copies, told", x.readAnew(false), 0);
        is("secret copies, told", x.readAnew(true), 0);
    }

    private static void promise27Synopsis() {
        CircleOfLeaves x = new CircleOfLeaves();
        x.volume('m', 9);
        make(x, "a", 9, 0);
        make(x, "b", 5, 0);
        make(x, "c", 0, 0);
        make(x, "d", 9, 1);
        make(x, "z", 9, 0);
        x.forbid(0, true);
        x.under(9, 8);
        x.under(8, 5);
        x.under(5, 0);
        is("nothing is printed", x.synopsis(0), 0);
        x.print(0);
        is("all", x.synopsis(0), 3);
        is("two", x.synopsis(5), 2);
        is("by a step", x.synopsis(8), 1);
        is("of it, forbidden", x.synopsis(9), 1);
        is("of another", x.synopsis(1), 0);
        x.under(8, CircleOfLeaves.NONE);
        is("put elsewhere", x.synopsis(0), 2);
        is("still by a step", x.synopsis(8), 1);
        isThrown("subject 10", BOUNDS, () -> x.synopsis(10));
        isThrown("subject -1", BOUNDS, () -> x.synopsis(-1));
        for (int i = 1; i < 10; i++) {
            x.under(i, i - 1);
        }
        is("by nine steps", x.synopsis(0), 3);
        is("by eight steps", x.synopsis(1), 2);
    }

    private static void allAtTheirMost() {
        CircleOfLeaves x = new CircleOfLeaves();
        for (int i = 0; i < 24; i++) {
            make(x, "" + (char) ('z' - i), i % 10, 1 + i % 9);
            for (int r = 0; r < 4; r++) {
                refer(x, i, "" + (char) ('a' + (i + 7 * r) % 26));
            }
            x.use(i, i % 8);
            x.forbid(i, i % 2 == 0);
        }
        for (int i = 0; i < 4; i++) {
            x.volume("gmtz".charAt(i), 99);
        }
        for (int i = 0; i < 6; i++) {
            x.contributor(9);
        }
        for (int i = 0; i < 23; i++) {
            is("give", x.give(i, 0), i + 1);
        }
        is("the last place", x.at(23), 0);
        is("no place behind", x.at(24), CircleOfLeaves.NONE);
        is("the last letter's article", x.about(23, 1), 0);
        is("give the last one", x.give(23, 0), 24);
        x.pass(50);
        x.pass(50);
        is("all are written", x.about(23, 0), CircleOfLeaves.WRITTEN);
        is("print 0", x.print(0), 5);
        x.change(7, 1);
        is("supplement, with one fact to tell", x.supplement(), 1);
        is("print 1", x.print(1), 6);
        is("print 2", x.print(2), 7);
        is("print 3", x.print(3), 6);
        is("all are printed", x.about(0, 0) + x.about(23, 0), 2 * CircleOfLeaves.PRINTED);
        is("those of subject 3", x.synopsis(3), 3);
        // Articles are there for c to z; a is never promised, since its volume is the first to be printed.
        is("struck", x.struck(), 8);
        is("open", x.open(true), 0);
        is("contradictions", x.contradictions(true), 0);
        x.die(0);
        isThrown("give to the dead one", STATE, () -> x.give(23, 0));
    }
}
