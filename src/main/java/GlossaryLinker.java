/**
 * A linker of glossary terms on pages of words. Its document tells what each method promises; the
 * numbers of the promises stand at the methods.
 */
public final class GlossaryLinker {
    public static final int NONE = -1, BAD = -2, STATE = -3, FULL = -4;

    private static final int WITHOUT = -5;
    private static final int WRONG_TEXT = -100;

    private static final int PAGES = 4;
    private static final int WORDS = 20;
    private static final int SECTIONS = 4;
    private static final int LETTERS = 10;
    private static final int RULES = 6;
    private static final int ENDING_LETTERS = 4;
    private static final int REPLACEMENT_LETTERS = 3;
    private static final int STEM_LETTERS = 2;
    private static final int MOST_RULES_APPLIED = 2;
    private static final int BASES = 1 + RULES + RULES * RULES;
    private static final int SENSES = 8;
    private static final int HINTS = 4;
    private static final int MOST_WINDOW = 8;
    private static final int MOST_GAP = 9;
    private static final int TAPE = 80;
    private static final int FED = 5;
    private static final int MOST_BYTE = 127;
    private static final int CHANGES = 8;

    private static final int FORM = 1, TOO_LONG = 2, TOO_MANY = 3;

    private static final int LINKED = 0, NO_MENTION = 1, NO_SENSE = 2, OWN_PAGE = 3;
    private static final int LINKED_AHEAD = 4, IN_GAP = 5, OVER_BUDGET = 6;

    private final Tape tape = new Tape();
    private final State now = new State();
    private final State snapshot = new State();
    private boolean snapshotTaken;
    private final History history = new History();
    private final Linking[] linkings = new Linking[PAGES];
    private final Edit edit = new Edit();

    /** Promise 1. */
    public GlossaryLinker() {
        for (int p = 0; p < linkings.length; p++) {
            linkings[p] = new Linking();
        }
    }

    /** Promise 2. */
    public int feed(int n, int a, int b, int c, int d, int e) {
        if (n < 1 || n > FED || !isByte(a) || !isByte(b) || !isByte(c) || !isByte(d) || !isByte(e)) {
            return BAD;
        }
        if (tape.length + n > TAPE) {
            return FULL;
        }
        tape.append(a);
        if (n > 1) {
            tape.append(b);
        }
        if (n > 2) {
            tape.append(c);
        }
        if (n > 3) {
            tape.append(d);
        }
        if (n > 4) {
            tape.append(e);
        }
        return tape.length;
    }

    /** Promise 3. */
    public int page(int page) {
        Page target = now.pageAt(page);
        if (target == null) {
            return NONE;
        }
        if (!tape.readPage()) {
            return WRONG_TEXT - tape.wrong;
        }
        startChange();
        target.copyWords(tape.page);
        return target.size;
    }

    /** Promise 4. */
    public int sense() {
        if (now.senseCount >= SENSES) {
            return FULL;
        }
        if (!tape.readSense()) {
            return WRONG_TEXT - tape.wrong;
        }
        startChange();
        now.addSense(tape.sense);
        return now.senseCount - 1;
    }

    /** Promise 5. */
    public int rule() {
        if (now.ruleCount >= RULES) {
            return FULL;
        }
        if (!tape.readRule()) {
            return WRONG_TEXT - tape.wrong;
        }
        startChange();
        now.addRule(tape.rule);
        return now.ruleCount - 1;
    }

    /** Promise 6. */
    public int removeSense(int sense) {
        if (now.senseAt(sense) == null) {
            return NONE;
        }
        startChange();
        now.dropSense(sense);
        return now.senseCount;
    }

    /** Promise 7. */
    public int removeRule(int rule) {
        if (now.ruleAt(rule) == null) {
            return NONE;
        }
        startChange();
        now.dropRule(rule);
        return now.ruleCount;
    }

    /** Promise 8. */
    public int parameter(int what, int v) {
        if (what < 0 || what > 1) {
            return NONE;
        }
        if (v < 0 || v > (what == 0 ? MOST_WINDOW : MOST_GAP)) {
            return BAD;
        }
        int before = what == 0 ? now.window : now.gap;
        startChange();
        if (what == 0) {
            now.window = v;
        } else {
            now.gap = v;
        }
        return before;
    }

    /** Promise 9. */
    public int budget(int page, int v) {
        Page target = now.pageAt(page);
        if (target == null) {
            return NONE;
        }
        if (v < 0 || v > WORDS) {
            return BAD;
        }
        int before = target.budget;
        startChange();
        target.budget = v;
        return before;
    }

    /** Promise 10. */
    public int insert(int page, int i) {
        Page target = now.pageAt(page);
        if (target == null || i < 0 || i > target.size) {
            return NONE;
        }
        if (target.size >= WORDS) {
            return FULL;
        }
        if (!tape.readWord()) {
            return WRONG_TEXT - tape.wrong;
        }
        startEdit(page);
        target.insertWord(i, tape.word);
        endEdit(page, i, 0, 1);
        return target.size;
    }

    /** Promise 11. */
    public int replace(int page, int i) {
        Page target = now.pageAt(page);
        if (target == null || i < 0 || i >= target.size) {
            return NONE;
        }
        if (!tape.readWord()) {
            return WRONG_TEXT - tape.wrong;
        }
        startEdit(page);
        target.replaceWord(i, tape.word);
        endEdit(page, i, 1, 1);
        return target.size;
    }

    /** Promise 12. */
    public int cut(int page, int i) {
        Page target = now.pageAt(page);
        if (target == null || i < 0 || i >= target.size) {
            return NONE;
        }
        startEdit(page);
        target.dropWord(i);
        endEdit(page, i, 1, 0);
        return target.size;
    }

    /** Promise 13. */
    public int edited(int what) {
        switch (what) {
            case 0:
                return edit.came;
            case 1:
                return edit.went;
            case 2:
                return edit.first;
            default:
                return NONE;
        }
    }

    /** Promise 14. */
    public int cause() {
        return tape.cause;
    }

    /** Promise 15. */
    public int word(int page, int i, int k) {
        Page words = now.pageAt(page);
        if (words == null || i < 0 || i >= words.size || k < -1) {
            return NONE;
        }
        return letterOrLength(words.wordAt(i), k);
    }

    /** Promise 16. */
    public int told(int page, int i, int what) {
        Linking links = linkingOf(page);
        if (links == null || i < 0 || i >= links.size) {
            return NONE;
        }
        switch (what) {
            case 0:
                return links.sectionAt(i);
            case 1:
                return links.reasonAt(i);
            case 2:
                return links.linkedSenseAt(i);
            case 3:
                return links.meantAt(i);
            case 4:
                return links.scoreAt(i);
            case 5:
                return links.levelAt(i);
            case 6:
                return links.linksAheadOf(i);
            case 7:
                return links.baseCountAt(i);
            default:
                return NONE;
        }
    }

    /** Promise 17. */
    public int base(int page, int i, int base, int k) {
        Linking links = linkingOf(page);
        if (links == null || i < 0 || i >= links.size || base < 0 || k < -1) {
            return NONE;
        }
        Bases bases = links.basesAt(i);
        if (bases == null || base >= bases.size) {
            return WITHOUT;
        }
        return letterOrLength(bases.wordAt(base), k);
    }

    /** Promise 18. */
    public int ofSense(int sense, int what) {
        Sense asked = now.senseAt(sense);
        if (asked == null) {
            return NONE;
        }
        if (what >= 10 && what < 10 + PAGES) {
            return linkedOnPage(sense, what - 10);
        }
        switch (what) {
            case 0:
                return Words.lengthOf(asked.head);
            case 1:
                return asked.hintCount;
            case 2:
                return asked.own;
            case 3:
                return linkedOnAllPages(sense);
            case 4:
                return meantOnAllPages(sense);
            default:
                return NONE;
        }
    }

    /** Promise 19. */
    public int ofPage(int page, int what) {
        Page words = now.pageAt(page);
        Linking links = linkingOf(page);
        if (words == null || links == null) {
            return NONE;
        }
        if (what >= 10 && what <= 10 + OVER_BUDGET) {
            return links.wordsWithReason(what - 10);
        }
        switch (what) {
            case 0:
                return words.size;
            case 1:
                return words.sectionCount();
            case 2:
                return words.budget;
            case 3:
                return links.wordsWithReason(LINKED);
            case 4:
                return links.size - links.wordsWithReason(NO_MENTION);
            case 5:
                return links.enoughBudget();
            default:
                return NONE;
        }
    }

    /** Promise 20. */
    public int link(int page, int k) {
        Linking links = linkingOf(page);
        if (links == null || k < 0) {
            return NONE;
        }
        return links.linkedWord(k);
    }

    /** Promise 21. */
    public int without(int page, int k) {
        Linking links = linkingOf(page);
        int word = links == null ? WITHOUT : links.linkedWord(k);
        if (links == null || word == WITHOUT) {
            return NONE;
        }
        return links.firstOtherWithout(word);
    }

    /** Promise 22. */
    public int again(int page) {
        Linking links = linkingOf(page);
        return links == null ? NONE : links.linksFromTheLast();
    }

    /** Promise 23. */
    public int back() {
        if (history.size < 1) {
            return STATE;
        }
        history.takeLatest(now);
        forgetLinks();
        return history.size;
    }

    /** Promise 24. */
    public int image() {
        snapshot.copyFrom(now);
        snapshotTaken = true;
        return now.senseCount;
    }

    /** Promise 25. */
    public int undo() {
        if (!snapshotTaken) {
            return STATE;
        }
        now.copyFrom(snapshot);
        history.size = 0;
        forgetLinks();
        return now.senseCount;
    }

    /** Promise 26. */
    public int count(int what) {
        switch (what) {
            case 0:
                return now.senseCount;
            case 1:
                return now.ruleCount;
            case 2:
                return tape.length;
            case 3:
                return history.size;
            case 4:
                return now.window;
            case 5:
                return now.gap;
            case 6:
                return wordsOfAllPages();
            case 7:
                return linksOfAllPages();
            case 8:
                return sensesWithoutLinks();
            default:
                return NONE;
        }
    }

    private static boolean isByte(int value) {
        return value >= 0 && value <= MOST_BYTE;
    }

    private static int letterOrLength(long word, int k) {
        int length = Words.lengthOf(word);
        if (k == -1) {
            return length;
        }
        return k >= 0 && k < length ? Words.letterAt(word, k, length) : WITHOUT;
    }

    /** To be called ahead of every change, while the state is still the one to come back to. */
    private void startChange() {
        history.keep(now);
        forgetLinks();
    }

    private void startEdit(int page) {
        Linking links = linkingOf(page);
        if (links != null) {
            links.copyLinkedSenses(edit.before);
        }
        startChange();
    }

    private void endEdit(int page, int at, int removed, int added) {
        Linking links = linkingOf(page);
        if (links != null) {
            links.copyLinkedSenses(edit.after);
        }
        edit.compare(at, removed, added);
    }

    private void forgetLinks() {
        for (int p = 0; p < linkings.length; p++) {
            Linking links = linkings[p];
            if (links != null) {
                links.fresh = false;
            }
        }
    }

    /** The links of a page as they follow from the state now; null if there is no such page. */
    private Linking linkingOf(int page) {
        Linking links = page >= 0 && page < linkings.length ? linkings[page] : null;
        if (links != null && !links.fresh) {
            links.followFrom(now, page);
        }
        return links;
    }

    private int linkedOnPage(int sense, int page) {
        Linking links = linkingOf(page);
        return links == null ? 0 : links.wordsLinkedTo(sense);
    }

    private int linkedOnAllPages(int sense) {
        int words = 0;
        for (int p = 0; p < PAGES; p++) {
            Linking links = linkingOf(p);
            words += links == null ? 0 : links.wordsLinkedTo(sense);
        }
        return words;
    }

    private int meantOnAllPages(int sense) {
        int words = 0;
        for (int p = 0; p < PAGES; p++) {
            Linking links = linkingOf(p);
            words += links == null ? 0 : links.wordsThatMean(sense);
        }
        return words;
    }

    private int wordsOfAllPages() {
        int words = 0;
        for (int p = 0; p < PAGES; p++) {
            Page page = now.pageAt(p);
            words += page == null ? 0 : page.size;
        }
        return words;
    }

    private int linksOfAllPages() {
        int words = 0;
        for (int p = 0; p < PAGES; p++) {
            Linking links = linkingOf(p);
            words += links == null ? 0 : links.wordsWithReason(LINKED);
        }
        return words;
    }

    private int sensesWithoutLinks() {
        int linked = 0;
        for (int p = 0; p < PAGES; p++) {
            Linking links = linkingOf(p);
            linked |= links == null ? 0 : links.linkedSenses();
        }
        int all = (1 << now.senseCount) - 1;
        return all & ~linked;
    }

    /**
     * Words, endings and replacements as numbers, five bits a letter, the last letter lowest. So two
     * of them are the same if their numbers are, and forming a base makes no objects.
     */
    private static final class Words {
        static final long NO_WORD = 0;
        static final int BITS = 5;
        static final long ONE_LETTER = 31;
        static final int AHEAD_OF_A = 96;

        static long with(long word, int code) {
            return (word << BITS) | ((code - AHEAD_OF_A) & ONE_LETTER);
        }

        static int lengthOf(long word) {
            int length = 0;
            for (long rest = word; rest != 0 && length < LETTERS; rest >>>= BITS) {
                length++;
            }
            return length;
        }

        static int letterAt(long word, int k, int length) {
            return (int) ((word >>> (BITS * (length - 1 - k))) & ONE_LETTER) + AHEAD_OF_A;
        }
    }

    /** The words of a page and its budget. */
    private static final class Page {
        final long[] words = new long[WORDS];
        final int[] sections = new int[WORDS];
        int size;
        int budget = WORDS;

        long wordAt(int i) {
            return i >= 0 && i < size && i < words.length ? words[i] : Words.NO_WORD;
        }

        int sectionAt(int i) {
            return i >= 0 && i < size && i < sections.length ? sections[i] : 0;
        }

        int sectionCount() {
            return size < 1 ? 0 : sectionAt(size - 1) + 1;
        }

        void addWord(long word, int section) {
            if (size < 0 || size >= words.length || size >= sections.length) {
                return;
            }
            words[size] = word;
            sections[size] = section;
            size++;
        }

        void insertWord(int i, long word) {
            if (i < 0 || i > size || size >= words.length || size >= sections.length) {
                return;
            }
            int section = i < size ? sectionAt(i) : sectionAt(size - 1);
            for (int j = size; j > i; j--) {
                words[j] = words[j - 1];
                sections[j] = sections[j - 1];
            }
            words[i] = word;
            sections[i] = section;
            size++;
        }

        void replaceWord(int i, long word) {
            if (i >= 0 && i < size && i < words.length) {
                words[i] = word;
            }
        }

        void dropWord(int i) {
            if (i < 0 || i >= size || size > words.length || size > sections.length) {
                return;
            }
            int section = sections[i];
            for (int j = i; j + 1 < size; j++) {
                words[j] = words[j + 1];
                sections[j] = sections[j + 1];
            }
            size--;
            if (!hasSection(section)) {
                closeUpSections(section);
            }
        }

        private boolean hasSection(int section) {
            for (int j = 0; j < size && j < sections.length; j++) {
                if (sections[j] == section) {
                    return true;
                }
            }
            return false;
        }

        private void closeUpSections(int gone) {
            for (int j = 0; j < size && j < sections.length; j++) {
                if (sections[j] > gone) {
                    sections[j]--;
                }
            }
        }

        void copyWords(Page from) {
            if (from == null) {
                return;
            }
            System.arraycopy(from.words, 0, words, 0, WORDS);
            System.arraycopy(from.sections, 0, sections, 0, WORDS);
            size = from.size;
        }

        void copyFrom(Page from) {
            if (from == null) {
                return;
            }
            copyWords(from);
            budget = from.budget;
        }
    }

    /** A sense of a head. */
    private static final class Sense {
        long head;
        final long[] hints = new long[HINTS];
        int hintCount;
        int own = WITHOUT;

        long hintAt(int h) {
            return h >= 0 && h < hintCount && h < hints.length ? hints[h] : Words.NO_WORD;
        }

        void addHint(long hint) {
            if (hintCount >= 0 && hintCount < hints.length) {
                hints[hintCount] = hint;
                hintCount++;
            }
        }

        void copyFrom(Sense from) {
            if (from == null) {
                return;
            }
            head = from.head;
            System.arraycopy(from.hints, 0, hints, 0, HINTS);
            hintCount = from.hintCount;
            own = from.own;
        }
    }

    /** A rule of endings. */
    private static final class Rule {
        long ending;
        long replacement;
        int endingBits;
        int replacementBits;

        void become(long newEnding, long newReplacement) {
            ending = newEnding;
            replacement = newReplacement;
            endingBits = Words.BITS * Words.lengthOf(newEnding);
            replacementBits = Words.BITS * Words.lengthOf(newReplacement);
        }

        /** The word with its ending replaced, NO_WORD if the rule can't be applied to it. */
        long applyTo(long word) {
            long stem = word >>> endingBits;
            boolean ends = ((stem << endingBits) | ending) == word;
            long result = (stem << replacementBits) | replacement;
            boolean stemLongEnough = stem >>> (Words.BITS * (STEM_LETTERS - 1)) != 0;
            boolean resultTooLong = result >>> (Words.BITS * LETTERS) != 0;
            return ends && stemLongEnough && !resultTooLong ? result : Words.NO_WORD;
        }

        void copyFrom(Rule from) {
            if (from == null) {
                return;
            }
            ending = from.ending;
            replacement = from.replacement;
            endingBits = from.endingBits;
            replacementBits = from.replacementBits;
        }
    }

    /** All that the changes change; the rows behind the counts are spare ones. */
    private static final class State {
        final Page[] pages = new Page[PAGES];
        final Sense[] senses = new Sense[SENSES];
        final Rule[] rules = new Rule[RULES];
        int senseCount;
        int ruleCount;
        int window = 3;
        int gap = 0;

        State() {
            for (int p = 0; p < pages.length; p++) {
                pages[p] = new Page();
            }
            for (int s = 0; s < senses.length; s++) {
                senses[s] = new Sense();
            }
            for (int r = 0; r < rules.length; r++) {
                rules[r] = new Rule();
            }
        }

        Page pageAt(int p) {
            return p >= 0 && p < pages.length ? pages[p] : null;
        }

        Sense senseAt(int s) {
            return s >= 0 && s < senseCount && s < senses.length ? senses[s] : null;
        }

        Rule ruleAt(int r) {
            return r >= 0 && r < ruleCount && r < rules.length ? rules[r] : null;
        }

        boolean isHead(long word) {
            for (int s = 0; s < senseCount; s++) {
                Sense sense = senseAt(s);
                if (sense != null && sense.head == word) {
                    return true;
                }
            }
            return false;
        }

        void addSense(Sense read) {
            Sense spare = senseCount >= 0 && senseCount < senses.length ? senses[senseCount] : null;
            if (spare != null) {
                spare.copyFrom(read);
                senseCount++;
            }
        }

        void addRule(Rule read) {
            Rule spare = ruleCount >= 0 && ruleCount < rules.length ? rules[ruleCount] : null;
            if (spare != null) {
                spare.copyFrom(read);
                ruleCount++;
            }
        }

        void dropSense(int s) {
            Sense gone = senseAt(s);
            if (gone == null || senseCount > senses.length) {
                return;
            }
            for (int j = s; j + 1 < senseCount; j++) {
                senses[j] = senses[j + 1];
            }
            senseCount--;
            senses[senseCount] = gone;
        }

        void dropRule(int r) {
            Rule gone = ruleAt(r);
            if (gone == null || ruleCount > rules.length) {
                return;
            }
            for (int j = r; j + 1 < ruleCount; j++) {
                rules[j] = rules[j + 1];
            }
            ruleCount--;
            rules[ruleCount] = gone;
        }

        void copyFrom(State from) {
            if (from == null) {
                return;
            }
            for (int p = 0; p < pages.length; p++) {
                if (pages[p] != null) {
                    pages[p].copyFrom(from.pageAt(p));
                }
            }
            for (int s = 0; s < senses.length; s++) {
                if (senses[s] != null) {
                    senses[s].copyFrom(from.senseAt(s));
                }
            }
            for (int r = 0; r < rules.length; r++) {
                if (rules[r] != null) {
                    rules[r].copyFrom(from.ruleAt(r));
                }
            }
            senseCount = from.senseCount;
            ruleCount = from.ruleCount;
            window = from.window;
            gap = from.gap;
        }
    }

    /** The states ahead of the changes that can be undone, the latest last. */
    private static final class History {
        final State[] states = new State[CHANGES];
        int size;

        History() {
            for (int c = 0; c < states.length; c++) {
                states[c] = new State();
            }
        }

        void keep(State state) {
            if (size >= states.length) {
                dropOldest();
            }
            State spare = size >= 0 && size < states.length ? states[size] : null;
            if (spare != null) {
                spare.copyFrom(state);
                size++;
            }
        }

        private void dropOldest() {
            if (states.length < 1) {
                return;
            }
            State oldest = states[0];
            for (int c = 0; c + 1 < states.length; c++) {
                states[c] = states[c + 1];
            }
            states[states.length - 1] = oldest;
            size = states.length - 1;
        }

        void takeLatest(State into) {
            if (into == null || size < 1 || size > states.length) {
                return;
            }
            size--;
            into.copyFrom(states[size]);
        }
    }

    /** The bytes that were fed, and what was read of them last. */
    private static final class Tape {
        static final int END = -1;
        static final int NOT_WRONG = -1;

        final int[] bytes = new int[TAPE];
        int length;
        int place;
        int wrong = NOT_WRONG;
        int cause = WITHOUT;
        final Page page = new Page();
        final Sense sense = new Sense();
        final Rule rule = new Rule();
        long word;

        void append(int value) {
            if (length >= 0 && length < bytes.length) {
                bytes[length] = value;
                length++;
            }
        }

        boolean readPage() {
            start();
            page.size = 0;
            if (length > 0) {
                takeSections();
            }
            return finish();
        }

        boolean readSense() {
            start();
            sense.hintCount = 0;
            sense.own = WITHOUT;
            sense.head = takeWord(true);
            demand(':');
            if (atLetter()) {
                takeHints();
            }
            if (comes('@')) {
                takeOwnPage();
            }
            demandEnd();
            return finish();
        }

        boolean readRule() {
            start();
            if (!atLetter()) {
                fail(FORM);
            }
            long ending = takeLetters(ENDING_LETTERS);
            demand('>');
            long replacement = takeLetters(REPLACEMENT_LETTERS);
            demandEnd();
            rule.become(ending, replacement);
            return finish();
        }

        boolean readWord() {
            start();
            word = takeWord(true);
            demandEnd();
            return finish();
        }

        private void start() {
            place = 0;
            wrong = NOT_WRONG;
        }

        private boolean finish() {
            length = 0;
            return wrong == NOT_WRONG;
        }

        /** Of several faults the first one counts. */
        private void fail(int why) {
            if (wrong == NOT_WRONG) {
                wrong = place;
                cause = why;
            }
        }

        private int comingByte() {
            return place >= 0 && place < length && place < bytes.length ? bytes[place] : END;
        }

        private boolean comes(int value) {
            return wrong == NOT_WRONG && comingByte() == value;
        }

        private boolean atLetter() {
            int coming = comingByte();
            return wrong == NOT_WRONG && coming >= 'a' && coming <= 'z';
        }

        private void demand(int value) {
            if (comes(value)) {
                place++;
            } else {
                fail(FORM);
            }
        }

        private void demandEnd() {
            if (!comes(END)) {
                fail(FORM);
            }
        }

        private long takeLetters(int most) {
            long letters = Words.NO_WORD;
            for (int k = 0; k < TAPE && atLetter(); k++) {
                if (k >= most) {
                    fail(TOO_LONG);
                } else {
                    letters = Words.with(letters, comingByte());
                    place++;
                }
            }
            return letters;
        }

        private long takeWord(boolean room) {
            if (!atLetter()) {
                fail(FORM);
            } else if (!room) {
                fail(TOO_MANY);
            }
            return takeLetters(LETTERS);
        }

        private void takeSections() {
            int section = 0;
            for (int k = 0; k < TAPE && wrong == NOT_WRONG; k++) {
                page.addWord(takeWord(page.size < WORDS), section);
                if (comes(END)) {
                    return;
                }
                demand(' ');
                if (comes('/')) {
                    section++;
                    if (section >= SECTIONS) {
                        fail(TOO_MANY);
                    }
                    demand('/');
                    demand(' ');
                }
            }
        }

        private void takeHints() {
            for (int k = 0; k <= HINTS && wrong == NOT_WRONG; k++) {
                sense.addHint(takeWord(sense.hintCount < HINTS));
                if (!comes(',')) {
                    return;
                }
                demand(',');
            }
        }

        private void takeOwnPage() {
            demand('@');
            int digit = comingByte() - '0';
            if (digit >= 0 && digit < PAGES) {
                sense.own = digit;
                place++;
            } else {
                fail(FORM);
            }
        }
    }

    /** The different bases of a word in their order. */
    private static final class Bases {
        final long[] words = new long[BASES];
        final int[] levels = new int[BASES];
        int size;

        long wordAt(int b) {
            return b >= 0 && b < size && b < words.length ? words[b] : Words.NO_WORD;
        }

        int levelAt(int b) {
            return b >= 0 && b < size && b < levels.length ? levels[b] : WITHOUT;
        }

        boolean has(long word) {
            for (int b = 0; b < size && b < words.length; b++) {
                if (words[b] == word) {
                    return true;
                }
            }
            return false;
        }

        /**
         * A base that came before yields nothing new, so that the rules need to be applied to the
         * different bases only; these stand in the order that the document gives.
         */
        void followFrom(State state, long word) {
            size = 0;
            add(word, 0);
            for (int b = 0; b < size && b < words.length && b < levels.length; b++) {
                for (int r = 0; levels[b] < MOST_RULES_APPLIED && r < state.ruleCount; r++) {
                    Rule rule = state.ruleAt(r);
                    if (rule != null) {
                        add(rule.applyTo(words[b]), levels[b] + 1);
                    }
                }
            }
        }

        private void add(long word, int level) {
            if (word == Words.NO_WORD || has(word)) {
                return;
            }
            if (size >= 0 && size < words.length && size < levels.length) {
                words[size] = word;
                levels[size] = level;
                size++;
            }
        }
    }

    /** One time of going through the words of a page: what the links so far mean for the next word. */
    private static final class Pass {
        int section;
        int sensesOfSection;
        int latest;
        int links;

        void start() {
            section = 0;
            sensesOfSection = 0;
            latest = WITHOUT;
            links = 0;
        }

        void enter(int newSection) {
            if (newSection != section) {
                section = newSection;
                sensesOfSection = 0;
            }
        }

        int reasonFor(int i, int sense, int gap, int budget) {
            if (((sensesOfSection >> sense) & 1) != 0) {
                return LINKED_AHEAD;
            }
            if (latest != WITHOUT && i - latest - 1 < gap) {
                return IN_GAP;
            }
            return links >= budget ? OVER_BUDGET : LINKED;
        }

        void add(int i, int sense) {
            sensesOfSection |= 1 << sense;
            latest = i;
            links++;
        }
    }

    /** The meanings and links of a page, as they followed from a state. */
    private static final class Linking {
        static final int NO_WORD_LEFT_OUT = -1;
        static final int NOT_ASKED = 0, IS_LINKED = 1, IS_NOT_LINKED = 2;

        final Bases[] bases = new Bases[WORDS];
        final int[] sections = new int[WORDS];
        final long[] heads = new long[WORDS];
        final int[] levels = new int[WORDS];
        final int[] meant = new int[WORDS];
        final int[] scores = new int[WORDS];
        final boolean[] onOwnPage = new boolean[WORDS];
        final int[] reasons = new int[WORDS];
        final int[] thought = new int[WORDS];
        final Pass pass = new Pass();
        int size;
        int gap;
        int budget;
        boolean fresh;

        Linking() {
            for (int i = 0; i < bases.length; i++) {
                bases[i] = new Bases();
            }
        }

        void followFrom(State state, int number) {
            Page page = state == null ? null : state.pageAt(number);
            if (page == null) {
                return;
            }
            size = Math.min(page.size, WORDS);
            gap = state.gap;
            budget = page.budget;
            for (int i = 0; i < size; i++) {
                sections[i] = page.sectionAt(i);
                Bases ofWord = basesAt(i);
                if (ofWord != null) {
                    ofWord.followFrom(state, page.wordAt(i));
                }
            }
            for (int i = 0; i < size; i++) {
                findHead(state, i);
                chooseSense(state, i);
                Sense sense = state.senseAt(meant[i]);
                onOwnPage[i] = sense != null && sense.own == number;
            }
            goThrough(budget, NO_WORD_LEFT_OUT, reasons);
            fresh = true;
        }

        private void findHead(State state, int i) {
            Bases ofWord = basesAt(i);
            if (ofWord == null || i < 0 || i >= heads.length || i >= levels.length) {
                return;
            }
            heads[i] = Words.NO_WORD;
            levels[i] = WITHOUT;
            for (int b = 0; b < ofWord.size && heads[i] == Words.NO_WORD; b++) {
                if (state.isHead(ofWord.wordAt(b))) {
                    heads[i] = ofWord.wordAt(b);
                    levels[i] = ofWord.levelAt(b);
                }
            }
        }

        private void chooseSense(State state, int i) {
            if (i < 0 || i >= heads.length || i >= meant.length || i >= scores.length) {
                return;
            }
            int withHead = 0;
            meant[i] = WITHOUT;
            scores[i] = WITHOUT;
            for (int s = 0; s < state.senseCount; s++) {
                Sense sense = state.senseAt(s);
                if (sense == null || sense.head != heads[i]) {
                    continue;
                }
                withHead++;
                int score = scoreOf(sense, i, state.window);
                if (score > scores[i]) {
                    meant[i] = s;
                    scores[i] = score;
                }
            }
            if (withHead > 1 && scores[i] == 0) {
                meant[i] = WITHOUT;
                scores[i] = WITHOUT;
            }
        }

        private int scoreOf(Sense sense, int i, int window) {
            int score = 0;
            for (int h = 0; h < sense.hintCount; h++) {
                long hint = sense.hintAt(h);
                boolean stands = false;
                for (int j = i - 1; j >= 0 && j >= i - window && !stands; j--) {
                    Bases ahead = basesAt(j);
                    stands = ahead != null && sectionAt(j) == sectionAt(i) && ahead.has(hint);
                }
                score += stands ? 1 : 0;
            }
            return score;
        }

        /** Tells the reason of every word in the row, as if the word left out could not be linked. */
        private int goThrough(int most, int leftOut, int[] row) {
            pass.start();
            for (int i = 0; i < size && i < row.length; i++) {
                pass.enter(sectionAt(i));
                row[i] = reasonInPass(i, most);
                if (row[i] == LINKED && i != leftOut) {
                    pass.add(i, meantAt(i));
                }
            }
            return pass.links;
        }

        private int reasonInPass(int i, int most) {
            if (levelAt(i) == WITHOUT) {
                return NO_MENTION;
            }
            if (meantAt(i) == WITHOUT) {
                return NO_SENSE;
            }
            if (isOnOwnPage(i)) {
                return OWN_PAGE;
            }
            return pass.reasonFor(i, meantAt(i), gap, most);
        }

        boolean isOnOwnPage(int i) {
            return i >= 0 && i < size && i < onOwnPage.length && onOwnPage[i];
        }

        Bases basesAt(int i) {
            return i >= 0 && i < size && i < bases.length ? bases[i] : null;
        }

        int baseCountAt(int i) {
            Bases ofWord = basesAt(i);
            return ofWord == null ? 0 : ofWord.size;
        }

        int sectionAt(int i) {
            return i >= 0 && i < size && i < sections.length ? sections[i] : WITHOUT;
        }

        int levelAt(int i) {
            return i >= 0 && i < size && i < levels.length ? levels[i] : WITHOUT;
        }

        int meantAt(int i) {
            return i >= 0 && i < size && i < meant.length ? meant[i] : WITHOUT;
        }

        int scoreAt(int i) {
            return i >= 0 && i < size && i < scores.length ? scores[i] : WITHOUT;
        }

        int reasonAt(int i) {
            return i >= 0 && i < size && i < reasons.length ? reasons[i] : WITHOUT;
        }

        int linkedSenseAt(int i) {
            return reasonAt(i) == LINKED ? meantAt(i) : WITHOUT;
        }

        int linksAheadOf(int i) {
            int links = 0;
            for (int j = 0; j < size && j < i; j++) {
                links += reasonAt(j) == LINKED ? 1 : 0;
            }
            return links;
        }

        int wordsWithReason(int reason) {
            int words = 0;
            for (int i = 0; i < size; i++) {
                words += reasonAt(i) == reason ? 1 : 0;
            }
            return words;
        }

        int wordsLinkedTo(int sense) {
            int words = 0;
            for (int i = 0; i < size; i++) {
                words += linkedSenseAt(i) == sense ? 1 : 0;
            }
            return words;
        }

        /** The senses to which a word is linked, as a set: bit s for sense s. */
        int linkedSenses() {
            int set = 0;
            for (int i = 0; i < size; i++) {
                if (reasonAt(i) == LINKED) {
                    set |= 1 << meantAt(i);
                }
            }
            return set;
        }

        int wordsThatMean(int sense) {
            int words = 0;
            for (int i = 0; i < size; i++) {
                words += meantAt(i) == sense ? 1 : 0;
            }
            return words;
        }

        int linkedWord(int k) {
            int links = 0;
            for (int i = 0; i < size; i++) {
                if (reasonAt(i) == LINKED) {
                    if (links == k) {
                        return i;
                    }
                    links++;
                }
            }
            return WITHOUT;
        }

        void copyLinkedSenses(int[] row) {
            for (int i = 0; row != null && i < row.length; i++) {
                row[i] = linkedSenseAt(i);
            }
        }

        /** No page has more links than words, so that a budget of all words hinders none. */
        int enoughBudget() {
            return goThrough(WORDS, NO_WORD_LEFT_OUT, thought);
        }

        /** A linked word is linked to its meant sense, so that reasons alone tell what differs. */
        int firstOtherWithout(int leftOut) {
            goThrough(budget, leftOut, thought);
            for (int i = leftOut + 1; i >= 0 && i < size && i < thought.length; i++) {
                if (thought[i] != reasonAt(i)) {
                    return i;
                }
            }
            return WITHOUT;
        }

        int linksFromTheLast() {
            for (int i = 0; i < thought.length; i++) {
                thought[i] = NOT_ASKED;
            }
            int links = 0;
            for (int i = size - 1; i >= 0; i--) {
                links += asksAhead(this, i, 0) ? 1 : 0;
            }
            return links;
        }

        /** Every word is answered once and asks only words ahead, so the depth is at most the words. */
        private static boolean asksAhead(Linking of, int i, int depth) {
            if (of == null || depth > WORDS || i < 0 || i >= of.size || i >= of.thought.length) {
                return false;
            }
            if (of.thought[i] != NOT_ASKED) {
                return of.thought[i] == IS_LINKED;
            }
            int links = 0;
            int latest = WITHOUT;
            boolean hindered = of.meantAt(i) == WITHOUT || of.isOnOwnPage(i);
            for (int j = i - 1; j >= 0; j--) {
                if (asksAhead(of, j, depth + 1)) {
                    links++;
                    latest = Math.max(latest, j);
                    boolean sameSection = of.sectionAt(j) == of.sectionAt(i);
                    hindered = hindered || (sameSection && of.meantAt(j) == of.meantAt(i));
                }
            }
            boolean inGap = latest != WITHOUT && i - latest - 1 < of.gap;
            hindered = hindered || inGap || links >= of.budget;
            of.thought[i] = hindered ? IS_NOT_LINKED : IS_LINKED;
            return !hindered;
        }
    }

    /** What the latest edit told; its rows hold the linked senses of the page's words. */
    private static final class Edit {
        final int[] before = new int[WORDS];
        final int[] after = new int[WORDS];
        int came = WITHOUT;
        int went = WITHOUT;
        int first = WITHOUT;

        void compare(int at, int removed, int added) {
            came = 0;
            went = 0;
            first = WITHOUT;
            for (int i = 0; i < WORDS; i++) {
                if (isLinkOnlyHere(after, i, before, placeOf(i, at, added, removed))) {
                    came++;
                    first = first == WITHOUT ? i : first;
                }
                if (isLinkOnlyHere(before, i, after, placeOf(i, at, removed, added))) {
                    went++;
                }
            }
        }

        /** The number of a word on the other side of the edit, WITHOUT if it does not stand there. */
        private static int placeOf(int i, int at, int here, int there) {
            if (i < at) {
                return i;
            }
            return i < at + here ? WITHOUT : i - here + there;
        }

        private static boolean isLinkOnlyHere(int[] here, int i, int[] there, int j) {
            if (i < 0 || i >= here.length || here[i] == WITHOUT) {
                return false;
            }
            return j < 0 || j >= there.length || there[j] != here[i];
        }
    }
}
