/** The making of an encyclopedia, as ../shared/DOC.md tells it. */
public final class CircleOfLeaves {
    public static final int NONE = -1;
    public static final int PLANNED = 0, GIVEN = 1, WRITTEN = 2, PRINTED = 3;

    private static final int MOST_SIGNS = 8;
    private static final int MOST_ARTICLES = 24;
    private static final int MOST_REFERENCES = 4;
    private static final int MOST_VOLUMES = 4;
    private static final int MOST_CONTRIBUTORS = 6;
    private static final int SUBJECTS = 10;
    private static final int FACTS = 8;
    private static final int MOST_WORTH = 9;
    private static final int MOST_COLUMNS = 99;
    private static final int MOST_PACE = 9;
    private static final int MOST_MONTHS = 50;
    private static final int LAST_QUESTION = 4;

    private final Headword draft = new Headword();
    private final Article[] articles = new Article[MOST_ARTICLES];
    private final Volume[] volumes = new Volume[MOST_VOLUMES];
    private final Contributor[] contributors = new Contributor[MOST_CONTRIBUTORS];
    private final int[] subjectAbove = new int[SUBJECTS];
    private final int[] factValues = new int[FACTS];
    private int articleCount;
    private int volumeCount;
    // Volumes are printed in order, so this one number says which are.
    private int printedVolumes;
    private int contributorCount;
    private int monthNow;
    private boolean isRuledByWords;

    // Everything is made here once and taken into use later, so that no call makes an object.
    public CircleOfLeaves() {
        for (int i = 0; i < MOST_ARTICLES; i++) {
            articles[i] = new Article();
        }
        for (int i = 0; i < MOST_VOLUMES; i++) {
            volumes[i] = new Volume();
        }
        for (int i = 0; i < MOST_CONTRIBUTORS; i++) {
            contributors[i] = new Contributor();
        }
        for (int i = 0; i < SUBJECTS; i++) {
            subjectAbove[i] = NONE;
        }
    }

    // ---- headwords, articles

    public int sign(char sign) throws IllegalArgumentException, IllegalStateException {
        if (!isLetter(sign) && !isGap(sign)) {
            throw new IllegalArgumentException("no letter, blank or hyphen");
        }
        if (draft.signCount >= MOST_SIGNS) {
            throw new IllegalStateException("the draft is full");
        }
        draft.add(sign);
        return draft.signCount;
    }

    public int erase() {
        int erased = draft.signCount;
        draft.clear();
        return erased;
    }

    public boolean rule(boolean isByWords) throws IllegalStateException {
        if (printedVolumes > 0) {
            throw new IllegalStateException("a volume is printed");
        }
        boolean was = isRuledByWords;
        isRuledByWords = isByWords;
        return was;
    }

    public int article(int subject, int worth)
            throws IndexOutOfBoundsException, IllegalArgumentException, IllegalStateException {
        requireSubject(subject);
        if (worth < 0 || worth > MOST_WORTH) {
            throw new IllegalArgumentException("worth out of range");
        }
        if (articleCount >= MOST_ARTICLES || !draft.hasLetter()) {
            throw new IllegalStateException("no more articles, or no letter in the draft");
        }
        Article made = articles[articleCount];
        made.subject = subject;
        made.worth = worth;
        made.headword.take(draft);
        return articleCount++;
    }

    public int under(int subject, int above) throws IndexOutOfBoundsException, IllegalArgumentException {
        requireSubject(subject);
        if (above != NONE) {
            requireSubject(above);
        }
        if (above >= subject) {
            throw new IllegalArgumentException("not below the subject");
        }
        int was = subjectAbove[subject];
        subjectAbove[subject] = above;
        return was;
    }

    public int refer(int article) throws IndexOutOfBoundsException, IllegalStateException {
        requireArticle(article);
        Article from = articles[article];
        if (from.isPrinted || from.referenceCount >= MOST_REFERENCES || !draft.hasLetter()) {
            throw new IllegalStateException("printed, full, or no letter in the draft");
        }
        from.references[from.referenceCount].headword.take(draft);
        from.referenceCount++;
        return from.referenceCount;
    }

    public boolean use(int article, int fact) throws IndexOutOfBoundsException, IllegalStateException {
        requireArticle(article);
        requireFact(fact);
        Article user = articles[article];
        if (user.isPrinted || user.isBlind()) {
            throw new IllegalStateException("printed, or blind");
        }
        boolean isNew = !user.usesFact[fact];
        user.usesFact[fact] = true;
        return isNew;
    }

    public int change(int fact, int value) throws IndexOutOfBoundsException {
        requireFact(fact);
        int was = factValues[fact];
        factValues[fact] = value;
        return was;
    }

    public boolean forbid(int article, boolean is) throws IndexOutOfBoundsException, IllegalStateException {
        requireArticle(article);
        if (articles[article].isPrinted) {
            throw new IllegalStateException("printed");
        }
        boolean was = articles[article].isForbidden;
        articles[article].isForbidden = is;
        return was;
    }

    // ---- volumes, contributors

    public int volume(char last, int columns) throws IllegalArgumentException, IllegalStateException {
        if (!isLetter(last) || columns < 1 || columns > MOST_COLUMNS) {
            throw new IllegalArgumentException("no letter, or columns out of range");
        }
        if (volumeCount > 0 && last <= volumes[volumeCount - 1].lastLetter) {
            throw new IllegalArgumentException("not behind the volume ahead");
        }
        if (volumeCount >= MOST_VOLUMES) {
            throw new IllegalStateException("no more volumes");
        }
        volumes[volumeCount].lastLetter = last;
        volumes[volumeCount].budget = columns;
        return volumeCount++;
    }

    public int contributor(int pace) throws IllegalArgumentException, IllegalStateException {
        if (pace < 1 || pace > MOST_PACE) {
            throw new IllegalArgumentException("pace out of range");
        }
        if (contributorCount >= MOST_CONTRIBUTORS) {
            throw new IllegalStateException("no more contributors");
        }
        contributors[contributorCount].pace = pace;
        return contributorCount++;
    }

    public boolean quarrel(int contributor, int other) throws IndexOutOfBoundsException, IllegalArgumentException {
        requireContributor(contributor);
        requireContributor(other);
        if (contributor == other) {
            throw new IllegalArgumentException("nobody quarrels alone");
        }
        boolean had = contributors[contributor].hasQuarrelledWith[other];
        contributors[contributor].hasQuarrelledWith[other] = true;
        contributors[other].hasQuarrelledWith[contributor] = true;
        return had;
    }

    public int give(int article, int contributor) throws IndexOutOfBoundsException, IllegalStateException {
        requireArticle(article);
        requireContributor(contributor);
        Article given = articles[article];
        Contributor writer = contributors[contributor];
        if (!isToBeGiven(given) || writer.isDead || isAmongEnemies(given, writer)) {
            throw new IllegalStateException("it cannot be given to that one");
        }
        given.contributor = contributor;
        writer.addToWrite(article);
        if (writer.toWriteCount == 1) {
            beginFirst(writer);
        }
        return writer.toWriteCount;
    }

    public int die(int contributor) throws IndexOutOfBoundsException, IllegalStateException {
        requireContributor(contributor);
        Contributor dying = contributors[contributor];
        if (dying.isDead) {
            throw new IllegalStateException("dead");
        }
        int givenBack = dying.toWriteCount;
        for (int i = 0; i < givenBack; i++) {
            Article left = articles[dying.toWrite[i]];
            left.contributor = NONE;
            left.endMonth = NONE;
        }
        dying.toWriteCount = 0;
        dying.isDead = true;
        return givenBack;
    }

    public int pass(int months) throws IllegalArgumentException {
        if (months < 1 || months > MOST_MONTHS) {
            throw new IllegalArgumentException("months out of range");
        }
        int written = 0;
        for (int i = 0; i < months; i++) {
            monthNow++;
            for (int c = 0; c < contributorCount; c++) {
                if (endsAnArticle(contributors[c])) {
                    written++;
                }
            }
        }
        return written;
    }

    public int print(int volume) throws IndexOutOfBoundsException, IllegalStateException {
        requireVolume(volume);
        if (volume != printedVolumes) {
            throw new IllegalStateException("printed, or one ahead is not");
        }
        printedVolumes++;
        int printed = putToPressFrom(volume);
        lookAtReferences();
        return printed;
    }

    public int supplement() throws IllegalStateException {
        if (printedVolumes == 0) {
            throw new IllegalStateException("no volume is printed");
        }
        int added = putToPressFrom(0);
        lookAtReferences();
        return 100 * added + tellFacts() + tellPromises();
    }

    // ---- questions

    public int month() {
        return monthNow;
    }

    public int at(int place) throws IndexOutOfBoundsException {
        if (place < 0) {
            throw new IndexOutOfBoundsException("no such place");
        }
        for (int i = 0; i < articleCount; i++) {
            if (placeOf(i) == place) {
                return i;
            }
        }
        return NONE;
    }

    public int about(int article, int what) throws IndexOutOfBoundsException, IllegalArgumentException {
        requireArticle(article);
        if (what < 0 || what > LAST_QUESTION) {
            throw new IllegalArgumentException("no such question");
        }
        Article asked = articles[article];
        switch (what) {
            case 0:
                return asked.state();
            case 1:
                return volumeOf(asked.headword);
            case 2:
                return columnsOf(article);
            case 3:
                return asked.contributor;
            default:
                return asked.endMonth;
        }
    }

    public int struck() {
        int count = 0;
        for (int i = 0; i < articleCount; i++) {
            count += articles[i].countReferences(Fate.STRUCK);
        }
        return count;
    }

    public int errata(int contributor) throws IndexOutOfBoundsException {
        requireContributor(contributor);
        return contributors[contributor].errataOwned;
    }

    public int open(boolean isSecret) {
        int count = 0;
        for (int i = 0; i < articleCount; i++) {
            if (articles[i].isReadIn(isSecret)) {
                count += countBroken(articles[i]);
            }
        }
        return count;
    }

    public int contradictions(boolean isSecret) {
        int count = 0;
        for (int fact = 0; fact < FACTS; fact++) {
            if (isContradicted(fact, isSecret)) {
                count++;
            }
        }
        return count;
    }

    // What is told later only replaces what was printed, so each article's last values and the fates of its
    // references are what a reader holds in hand at the back: no record of the single printings is needed.
    public int readAnew(boolean isSecret) {
        return 100 * open(isSecret) + contradictions(isSecret);
    }

    public int synopsis(int subject) throws IndexOutOfBoundsException {
        requireSubject(subject);
        int count = 0;
        for (int i = 0; i < articleCount; i++) {
            if (articles[i].isPrinted && isWithin(articles[i].subject, subject)) {
                count++;
            }
        }
        return count;
    }

    // ---- what must be there

    private void requireArticle(int article) {
        if (article < 0 || article >= articleCount) {
            throw new IndexOutOfBoundsException("no such article");
        }
    }

    private void requireVolume(int volume) {
        if (volume < 0 || volume >= volumeCount) {
            throw new IndexOutOfBoundsException("no such volume");
        }
    }

    private void requireContributor(int contributor) {
        if (contributor < 0 || contributor >= contributorCount) {
            throw new IndexOutOfBoundsException("no such contributor");
        }
    }

    private static void requireSubject(int subject) {
        if (subject < 0 || subject >= SUBJECTS) {
            throw new IndexOutOfBoundsException("no such subject");
        }
    }

    private static void requireFact(int fact) {
        if (fact < 0 || fact >= FACTS) {
            throw new IndexOutOfBoundsException("no such fact");
        }
    }

    // ---- order

    private static boolean isLetter(char sign) {
        return sign >= 'a' && sign <= 'z';
    }

    private static boolean isGap(char sign) {
        return sign == ' ' || sign == '-';
    }

    private boolean areAlike(Headword one, Headword other) {
        return one.compareBy(isRuledByWords, other) == 0;
    }

    private boolean comesAhead(int one, int other) {
        int order = articles[one].headword.compareBy(isRuledByWords, articles[other].headword);
        return order < 0 || order == 0 && one < other;
    }

    private int placeOf(int article) {
        int ahead = 0;
        for (int i = 0; i < articleCount; i++) {
            if (comesAhead(i, article)) {
                ahead++;
            }
        }
        return ahead;
    }

    // ---- volumes and lengths

    private int volumeOf(Headword headword) {
        for (int i = 0; i < volumeCount; i++) {
            if (volumes[i].lastLetter >= headword.firstLetter()) {
                return i;
            }
        }
        return NONE;
    }

    private boolean isOfPrintedVolume(Headword headword) {
        int volume = volumeOf(headword);
        return volume != NONE && volume < printedVolumes;
    }

    private int columnsOf(int article) {
        int volume = volumeOf(articles[article].headword);
        if (volume == NONE) {
            return 0;
        }
        int worths = worthsIn(volume);
        // Where all are blind there is no share, and nobody needs a column.
        if (worths == 0) {
            return 0;
        }
        int budget = volumes[volume].budget;
        int portion = budget * articles[article].worth;
        int left = budget;
        int servedBefore = 0;
        for (int i = 0; i < articleCount; i++) {
            if (volumeOf(articles[i].headword) == volume) {
                int otherPortion = budget * articles[i].worth;
                left -= otherPortion / worths;
                int lead = otherPortion % worths - portion % worths;
                if (lead > 0 || lead == 0 && comesAhead(i, article)) {
                    servedBefore++;
                }
            }
        }
        return portion / worths + (servedBefore < left ? 1 : 0);
    }

    private int worthsIn(int volume) {
        int sum = 0;
        for (int i = 0; i < articleCount; i++) {
            if (volumeOf(articles[i].headword) == volume) {
                sum += articles[i].worth;
            }
        }
        return sum;
    }

    // ---- writing

    // Who has written an article stays its contributor, so one without a contributor has no text either.
    private boolean isToBeGiven(Article article) {
        return !article.isBlind() && article.contributor == NONE
                && volumeOf(article.headword) != NONE && !isOfPrintedVolume(article.headword);
    }

    private boolean isAmongEnemies(Article article, Contributor writer) {
        for (int i = 0; i < articleCount; i++) {
            Article other = articles[i];
            if (other.contributor != NONE && writer.hasQuarrelledWith[other.contributor]
                    && (refersTo(article, other) || refersTo(other, article))) {
                return true;
            }
        }
        return false;
    }

    private boolean refersTo(Article from, Article to) {
        for (int i = 0; i < from.referenceCount; i++) {
            if (areAlike(from.references[i].headword, to.headword)) {
                return true;
            }
        }
        return false;
    }

    private void beginFirst(Contributor writer) {
        if (writer.toWriteCount > 0) {
            int first = writer.toWrite[0];
            articles[first].endMonth = monthNow + writer.monthsFor(columnsOf(first));
        }
    }

    private boolean endsAnArticle(Contributor writer) {
        if (writer.toWriteCount == 0) {
            return false;
        }
        Article first = articles[writer.toWrite[0]];
        if (first.endMonth != monthNow) {
            return false;
        }
        first.hasText = true;
        writer.removeFirst();
        beginFirst(writer);
        return true;
    }

    // ---- printing

    private int putToPressFrom(int firstVolume) {
        int count = 0;
        for (int i = 0; i < articleCount; i++) {
            Article article = articles[i];
            if (article.isReady() && volumeOf(article.headword) >= firstVolume
                    && isOfPrintedVolume(article.headword)) {
                article.putToPress(factValues);
                count++;
            }
        }
        return count;
    }

    // Called when all articles are in the press: not before it is known which references stand.
    private void lookAtReferences() {
        for (int i = 0; i < articleCount; i++) {
            for (int r = 0; articles[i].isPrinted && r < articles[i].referenceCount; r++) {
                Reference reference = articles[i].references[r];
                if (reference.fate == Fate.UNSEEN) {
                    reference.fate = fateOf(reference.headword);
                }
            }
        }
    }

    private Fate fateOf(Headword headword) {
        if (isThere(headword)) {
            return Fate.STANDING;
        }
        return isOfPrintedVolume(headword) ? Fate.STRUCK : Fate.PROMISED;
    }

    // A forbidden article's headword stands in every copy, so it counts here for both sets.
    private boolean isThere(Headword headword) {
        for (int i = 0; i < articleCount; i++) {
            if (articles[i].isPrinted && areAlike(articles[i].headword, headword)) {
                return true;
            }
        }
        return false;
    }

    private boolean isBroken(Reference reference) {
        return reference.fate == Fate.PROMISED && isOfPrintedVolume(reference.headword)
                && !isThere(reference.headword);
    }

    private int countBroken(Article article) {
        int count = 0;
        for (int r = 0; r < article.referenceCount; r++) {
            if (isBroken(article.references[r])) {
                count++;
            }
        }
        return count;
    }

    // ---- errata

    private int tellFacts() {
        int told = 0;
        for (int i = 0; i < articleCount; i++) {
            Article article = articles[i];
            for (int fact = 0; fact < FACTS; fact++) {
                if (article.isPrinted && article.usesFact[fact] && article.toldValues[fact] != factValues[fact]) {
                    article.toldValues[fact] = factValues[fact];
                    addErratum(article.contributor);
                    told++;
                }
            }
        }
        return told;
    }

    private void addErratum(int contributor) {
        if (contributor != NONE) {
            contributors[contributor].errataOwned++;
        }
    }

    private int tellPromises() {
        int told = 0;
        for (int i = 0; i < articleCount; i++) {
            for (int r = 0; r < articles[i].referenceCount; r++) {
                Reference reference = articles[i].references[r];
                if (isBroken(reference)) {
                    reference.fate = Fate.TOLD;
                    told++;
                }
            }
        }
        return told;
    }

    // ---- reading

    private boolean isContradicted(int fact, boolean isSecret) {
        boolean isRead = false;
        int value = 0;
        for (int i = 0; i < articleCount; i++) {
            Article article = articles[i];
            if (article.isReadIn(isSecret) && article.usesFact[fact]) {
                if (isRead && article.toldValues[fact] != value) {
                    return true;
                }
                isRead = true;
                value = article.toldValues[fact];
            }
        }
        return false;
    }

    private boolean isWithin(int subject, int top) {
        int step = subject;
        // A subject stands under lower ones alone, so there are no more steps than subjects.
        for (int i = 0; i < SUBJECTS && step != NONE; i++) {
            if (step == top) {
                return true;
            }
            step = subjectAbove[step];
        }
        return false;
    }

    /** What has become of a reference. */
    private enum Fate { UNSEEN, STANDING, PROMISED, STRUCK, TOLD }

    /** Signs, kept twice: as they count word by word, and as they count by their letters alone. */
    private static final class Headword {
        private final char[] signs = new char[MOST_SIGNS];
        private final char[] letters = new char[MOST_SIGNS];
        private int signCount;
        private int letterCount;

        // A hyphen is alike to a blank in every order, and a blank's number is below each letter's.
        private void add(char sign) {
            if (signCount < MOST_SIGNS) {
                signs[signCount] = isGap(sign) ? ' ' : sign;
                signCount++;
            }
            if (isLetter(sign) && letterCount < MOST_SIGNS) {
                letters[letterCount] = sign;
                letterCount++;
            }
        }

        private void clear() {
            signCount = 0;
            letterCount = 0;
        }

        private void take(Headword drafted) {
            System.arraycopy(drafted.signs, 0, signs, 0, MOST_SIGNS);
            System.arraycopy(drafted.letters, 0, letters, 0, MOST_SIGNS);
            signCount = drafted.signCount;
            letterCount = drafted.letterCount;
            drafted.clear();
        }

        private boolean hasLetter() {
            return letterCount > 0;
        }

        private char firstLetter() {
            return letters[0];
        }

        private int compareBy(boolean isByWords, Headword other) {
            char[] one = isByWords ? signs : letters;
            char[] another = isByWords ? other.signs : other.letters;
            int oneCount = isByWords ? signCount : letterCount;
            int anotherCount = isByWords ? other.signCount : other.letterCount;
            for (int i = 0; i < oneCount && i < anotherCount; i++) {
                if (one[i] != another[i]) {
                    return one[i] - another[i];
                }
            }
            return oneCount - anotherCount;
        }
    }

    /** A headword to which an article refers. */
    private static final class Reference {
        private final Headword headword = new Headword();
        private Fate fate = Fate.UNSEEN;
    }

    /** An article, from its plan to its errata. */
    private static final class Article {
        private final Headword headword = new Headword();
        private final Reference[] references = new Reference[MOST_REFERENCES];
        private final boolean[] usesFact = new boolean[FACTS];
        private final int[] toldValues = new int[FACTS];
        private int referenceCount;
        private int subject;
        private int worth;
        private int contributor = NONE;
        private int endMonth = NONE;
        private boolean hasText;
        private boolean isForbidden;
        private boolean isPrinted;

        private Article() {
            for (int i = 0; i < MOST_REFERENCES; i++) {
                references[i] = new Reference();
            }
        }

        private boolean isBlind() {
            return worth == 0;
        }

        private boolean isReady() {
            return !isPrinted && (isBlind() || hasText);
        }

        private boolean isReadIn(boolean isSecret) {
            return isPrinted && (isSecret || !isForbidden);
        }

        private int state() {
            if (isPrinted) {
                return PRINTED;
            }
            if (hasText) {
                return WRITTEN;
            }
            return contributor == NONE ? PLANNED : GIVEN;
        }

        private void putToPress(int[] values) {
            isPrinted = true;
            System.arraycopy(values, 0, toldValues, 0, FACTS);
        }

        private int countReferences(Fate fate) {
            int count = 0;
            for (int i = 0; i < referenceCount; i++) {
                if (references[i].fate == fate) {
                    count++;
                }
            }
            return count;
        }
    }

    /** A volume: up to which letter it goes, and how many columns it has. */
    private static final class Volume {
        private char lastLetter;
        private int budget;
    }

    /** A contributor, with the numbers of the articles to write, in the order in which they were given. */
    private static final class Contributor {
        private final int[] toWrite = new int[MOST_ARTICLES];
        private final boolean[] hasQuarrelledWith = new boolean[MOST_CONTRIBUTORS];
        private int toWriteCount;
        private int pace = 1;
        private int errataOwned;
        private boolean isDead;

        private void addToWrite(int article) {
            if (toWriteCount < MOST_ARTICLES) {
                toWrite[toWriteCount] = article;
                toWriteCount++;
            }
        }

        private void removeFirst() {
            if (toWriteCount > 0) {
                toWriteCount--;
                System.arraycopy(toWrite, 1, toWrite, 0, toWriteCount);
            }
        }

        private int monthsFor(int columns) {
            return Math.max(1, (columns + pace - 1) / pace);
        }
    }
}
