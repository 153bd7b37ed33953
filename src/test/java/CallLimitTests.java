/** Arguments and errors: a test for each sentence of the promises that names a limit, and for the paragraph on errors. */
public final class CallLimitTests extends Checks {
    private static final int[] NO_PAGES = {-1, 4, 5, 256, 65536, LEAST, LEAST + 1, LEAST + 3, GREATEST, GREATEST - 1, -4};

    public static void main(String[] args) throws ReflectiveOperationException {
        runAll(CallLimitTests.class);
    }

    /** Six changes, an edit the last of them, a wrong text read, and "tape" on the tape. */
    private static GlossaryLinker object() {
        GlossaryLinker x = with(list("s>", "t>"), list("cat:x,y@1", "dog:"), "cats dog / cat");
        on(x, "dog").insert(3, 0);
        on(x, "abcdefghijk").page(2);
        return on(x, "tape");
    }

    /** All limits reached: six rules, eight senses, twenty words on page 2, eight changes. */
    private static GlossaryLinker full() {
        GlossaryLinker x = new GlossaryLinker();
        for (int r = 0; r < 6; r++) {
            on(x, "s>").rule();
        }
        for (int s = 0; s < 8; s++) {
            on(x, "q:").sense();
        }
        on(x, times("a", 20)).page(2);
        return x;
    }

    /** The call is refused, and everything is as it was, the tape and the changes too. */
    private static void refused(String name, GlossaryLinker x, Call call, int answer) {
        String before = all(x);
        int changes = x.count(3);
        due(name, call.to(x), answer);
        due("everything behind " + name, all(x), before);
        if (changes > 0) {
            due("back() behind " + name, x.back(), changes - 1);
        }
    }

    private static void refusedAll(String name, int[] arguments, CallWith call, int answer) {
        GlossaryLinker x = object();
        String before = all(x);
        for (int argument : arguments) {
            due(name + " with " + argument, call.to(x, argument), answer);
        }
        due("everything behind " + name, all(x), before);
        due("the word on the tape behind " + name, x.page(1), 1);
        due("its letters behind " + name, page(x, 1), "tape");
        due("back() behind " + name, x.back(), 6);
        due("the page then", x.ofPage(1, 0), 0);
    }

    private static int[] outOf(int first, int last) {
        return new int[] {first - 1, last + 1, first - 2, last + 2, LEAST, LEAST + 1, GREATEST, GREATEST - 1,
            LEAST + last + 1, GREATEST - last - 1, last + 65536, last + 256};
    }

    // Promise 1

    private static void newObject() {
        sentence("Creates a linker without words, rules and senses.");
        GlossaryLinker x = new GlossaryLinker();
        int[] counts = {0, 0, 0, 0, 3, 0, 0, 0, 0};
        for (int what = 0; what < counts.length; what++) {
            due("count(" + what + ")", x.count(what), counts[what]);
        }
        due("sense 0", x.ofSense(0, 0), NONE);
        due("removeSense(0)", x.removeSense(0), NONE);
        due("removeRule(0)", x.removeRule(0), NONE);
        due("cut(0, 0)", x.cut(0, 0), NONE);
        due("replace(0, 0)", x.replace(0, 0), NONE);
        due("link(0, 0)", x.link(0, 0), NO);
        due("without(0, 0)", x.without(0, 0), NONE);
        due("again(0)", x.again(0), 0);
        due("cause()", x.cause(), NO);
        due("edited", edits(x), "-5 -5 -5");
        due("back()", x.back(), STATE);
        due("undo()", x.undo(), STATE);
    }

    private static void objectsOfTheirOwn() {
        sentence("Creates a linker without words, rules and senses.");
        GlossaryLinker x = full();
        GlossaryLinker y = new GlossaryLinker();
        x.image();
        due("words of another object", y.count(6), 0);
        due("senses of another object", y.count(0), 0);
        due("rules of another object", y.count(1), 0);
        due("changes of another object", y.count(3), 0);
        due("snapshot of another object", y.undo(), STATE);
    }

    private static void constants() {
        sentence("NONE = -1, BAD = -2, STATE = -3, FULL = -4");
        due("NONE", GlossaryLinker.NONE, -1);
        due("BAD", GlossaryLinker.BAD, -2);
        due("STATE", GlossaryLinker.STATE, -3);
        due("FULL", GlossaryLinker.FULL, -4);
    }

    // Promise 2

    private static void oneToFiveBytes() {
        sentence("n: the number of bytes, 1 to 5; a is the first one, b the second, and so on");
        for (int n = 1; n <= 5; n++) {
            GlossaryLinker x = new GlossaryLinker();
            due("feed of " + n, x.feed(n, 'a', 'b', 'c', 'd', 'e'), n);
            due("the bytes on the tape", x.count(2), n);
            x.page(0);
            due("in their order", page(x, 0), "abcde".substring(0, n));
        }
    }

    private static void numberOfBytesOutOfRange() {
        sentence("BAD if n or any of the bytes is out of range");
        refusedAll("feed of n", outOf(1, 5), (x, n) -> x.feed(n, 'a', 'b', 'c', 'd', 'e'), BAD);
    }

    private static void bytesOutOfRange() {
        sentence("BAD if n or any of the bytes is out of range, also of those that are not appended");
        int[] none = outOf(0, 127);
        for (int k = 1; k <= 5; k++) {
            int n = k;
            refusedAll("a in " + n, none, (x, v) -> x.feed(n, v, 'b', 'c', 'd', 'e'), BAD);
            refusedAll("b in " + n, none, (x, v) -> x.feed(n, 'a', v, 'c', 'd', 'e'), BAD);
            refusedAll("c in " + n, none, (x, v) -> x.feed(n, 'a', 'b', v, 'd', 'e'), BAD);
            refusedAll("d in " + n, none, (x, v) -> x.feed(n, 'a', 'b', 'c', v, 'e'), BAD);
            refusedAll("e in " + n, none, (x, v) -> x.feed(n, 'a', 'b', 'c', 'd', v), BAD);
        }
    }

    private static void leastAndGreatestByte() {
        sentence("a: a byte, 0 to 127");
        GlossaryLinker x = new GlossaryLinker();
        due("0 everywhere", x.feed(5, 0, 0, 0, 0, 0), 5);
        due("127 everywhere", x.feed(5, 127, 127, 127, 127, 127), 10);
        due("not appended", x.feed(1, 0, 127, 0, 127, 0), 11);
    }

    private static void eightyBytes() {
        sentence("FULL if the tape would be longer than 80 bytes, and then none is appended");
        for (int n = 1; n <= 5; n++) {
            GlossaryLinker x = new GlossaryLinker();
            for (int length = 5; length <= 75; length += 5) {
                due("five", x.feed(5, ' ', ' ', ' ', ' ', ' '), length);
            }
            if (n < 5) {
                due("up to " + (80 - n), x.feed(5 - n, ' ', ' ', ' ', ' ', ' '), 80 - n);
            }
            if (n < 4) {
                due("one more than 80", x.feed(n + 1, 'a', 'b', 'c', 'd', 'e'), FULL);
                due("none appended", x.count(2), 80 - n);
            }
            due("80", x.feed(n, 'a', 'b', 'c', 'd', 'e'), 80);
            due("more than 80", x.feed(n, 'a', 'b', 'c', 'd', 'e'), FULL);
            due("none appended", x.count(2), 80);
        }
    }

    private static void fullTape() {
        sentence("FULL if the tape would be longer than 80 bytes");
        GlossaryLinker x = object();
        for (int length = 9; length <= 79; length += 5) {
            due("five", x.feed(5, 'a', 'a', 'a', 'a', 'a'), length);
        }
        refused("two more than 79", x, y -> y.feed(2, 'a', 'a', 'a', 'a', 'a'), FULL);
        due("one more than 79", x.feed(1, 'a', 'a', 'a', 'a', 'a'), 80);
        refused("one more than 80", x, y -> y.feed(1, 'a', 'a', 'a', 'a', 'a'), FULL);
        due("BAD comes first", x.feed(1, 'a', 'a', 'a', 'a', 128), BAD);
        due("BAD comes first", x.feed(6, 'a', 'a', 'a', 'a', 'a'), BAD);
        due("the text", x.page(0), -110);
        due("room again", x.feed(5, 'a', 'a', 'a', 'a', 'a'), 5);
    }

    // Promise 3

    private static void noSuchPageForPage() {
        sentence("page: NONE if there is no such page");
        refusedAll("page", NO_PAGES, (x, p) -> x.page(p), NONE);
        GlossaryLinker x = object();
        on(x, "?");
        due("NONE comes first", x.page(4), NONE);
        due("the cause stays", x.cause(), 2);
        due("the tape stays", x.count(2), 5);
    }

    private static void pageInPlaceOfAnEarlierOne() {
        sentence("Reads the words of a page, in place of earlier ones. An empty tape makes a page without words.");
        GlossaryLinker x = with(list(), list("a:"), times("a", 20));
        due("fewer words", on(x, "a / a").page(0), 2);
        due("the words", page(x, 0), "a / a");
        due("no third word", x.word(0, 2, -1), NONE);
        due("links", x.ofPage(0, 3), 2);
        due("no words", x.page(0), 0);
        due("no sections", x.ofPage(0, 1), 0);
        due("no word", x.word(0, 0, -1), NONE);
        due("links", x.ofPage(0, 3), 0);
        due("again without words", x.page(0), 0);
    }

    // Promises 4 and 5

    private static void fullSenses() {
        sentence("FULL if there are 8 senses, whatever the tape is");
        GlossaryLinker x = full();
        refused("an empty tape", x, y -> y.sense(), FULL);
        due("a right sense", on(x, "a:").sense(), FULL);
        due("the tape stays", x.count(2), 2);
        due("a wrong one", on(x, "??").sense(), FULL);
        due("the tape stays", x.count(2), 4);
        due("no cause", x.cause(), NO);
    }

    private static void senseBeforeItIsFull() {
        sentence("Returns its number; FULL if there are 8 senses");
        GlossaryLinker x = full();
        x.removeSense(3);
        due("seven are not full", on(x, "a:b@2").sense(), 7);
        due("its hints", x.ofSense(7, 1), 1);
        due("its own page", x.ofSense(7, 2), 2);
        x.removeSense(0);
        due("a wrong text for the eighth", on(x, "a").sense(), -101);
        due("seven senses", x.count(0), 7);
    }

    private static void fullRules() {
        sentence("FULL if there are 6 rules, whatever the tape is");
        GlossaryLinker x = full();
        refused("an empty tape", x, y -> y.rule(), FULL);
        due("a right rule", on(x, "a>").rule(), FULL);
        due("the tape stays", x.count(2), 2);
        due("a wrong one", on(x, "??").rule(), FULL);
        due("the tape stays", x.count(2), 4);
        due("no cause", x.cause(), NO);
    }

    private static void ruleBeforeItIsFull() {
        sentence("Returns its number; FULL if there are 6 rules");
        GlossaryLinker x = full();
        x.removeRule(3);
        due("five are not full", on(x, "a>b").rule(), 5);
        x.removeRule(0);
        due("a wrong text for the sixth", on(x, "a").rule(), -101);
        due("five rules", x.count(1), 5);
    }

    // Promises 6 and 7

    private static void noSuchSense() {
        sentence("removeSense: NONE if there is no such sense");
        refusedAll("removeSense", outOf(0, 1), (x, s) -> x.removeSense(s), NONE);
        GlossaryLinker x = full();
        due("eight", x.removeSense(8), NONE);
        due("seven", x.removeSense(7), 7);
        due("seven again", x.removeSense(7), NONE);
        for (int left = 6; left >= 0; left--) {
            due("the first", x.removeSense(0), left);
        }
        due("none is left", x.removeSense(0), NONE);
    }

    private static void laterSensesDecrease() {
        sentence("Removes a sense; the numbers of the later ones decrease by 1.");
        for (int s = 0; s < 8; s++) {
            GlossaryLinker x = new GlossaryLinker();
            for (int k = 0; k < 8; k++) {
                on(x, "abcdefgh".substring(0, k + 1) + ":").sense();
            }
            due("removeSense(" + s + ")", x.removeSense(s), 7);
            for (int k = 0; k < 7; k++) {
                due("sense " + k + " without " + s, x.ofSense(k, 0), k < s ? k + 1 : k + 2);
            }
            due("no eighth", x.ofSense(7, 0), NONE);
        }
    }

    private static void noSuchRule() {
        sentence("removeRule: NONE if there is no such rule");
        refusedAll("removeRule", outOf(0, 1), (x, r) -> x.removeRule(r), NONE);
        GlossaryLinker x = full();
        due("six", x.removeRule(6), NONE);
        due("five", x.removeRule(5), 5);
        due("five again", x.removeRule(5), NONE);
        for (int left = 4; left >= 0; left--) {
            due("the first", x.removeRule(0), left);
        }
        due("none is left", x.removeRule(0), NONE);
    }

    private static void laterRulesDecrease() {
        sentence("Removes a rule; the numbers of the later ones decrease by 1.");
        String letters = "abcdef";
        for (int r = 0; r < 6; r++) {
            GlossaryLinker x = with(list("s>a", "s>b", "s>c", "s>d", "s>e", "s>f"), list(), "xxs");
            due("removeRule(" + r + ")", x.removeRule(r), 5);
            StringBuilder due = new StringBuilder("xxs");
            for (int k = 0; k < 6; k++) {
                due.append(k == r ? "" : " xx" + letters.charAt(k));
            }
            due("the bases without " + r, bases(x, 0, 0), due.toString());
        }
    }

    // Promises 8 and 9

    private static void parameterOutOfRange() {
        sentence("parameter: NONE if what is invalid; BAD if the number is out of range");
        refusedAll("what", outOf(0, 1), (x, what) -> x.parameter(what, 0), NONE);
        refusedAll("what and the number", outOf(0, 1), (x, what) -> x.parameter(what, -1), NONE);
        refusedAll("the window", outOf(0, 8), (x, v) -> x.parameter(0, v), BAD);
        refusedAll("the gap", outOf(0, 9), (x, v) -> x.parameter(1, v), BAD);
        GlossaryLinker x = new GlossaryLinker();
        due("a gap of 9", x.parameter(1, 9), 0);
        due("a window of 9", x.parameter(0, 9), BAD);
        due("a window of 8", x.parameter(0, 8), 3);
    }

    private static void budgetOutOfRange() {
        sentence("budget: NONE if there is no such page; BAD if the budget is out of range");
        refusedAll("the page", NO_PAGES, (x, p) -> x.budget(p, 0), NONE);
        refusedAll("the page and the budget", NO_PAGES, (x, p) -> x.budget(p, 21), NONE);
        for (int p = 0; p < 4; p++) {
            int page = p;
            refusedAll("the budget", outOf(0, 20), (x, v) -> x.budget(page, v), BAD);
        }
    }

    // Promises 10, 11 and 12

    private static void noSuchPlaceForInsert() {
        sentence("insert: NONE if there is no such page, or i is below 0 or above the number of words");
        refusedAll("the page", NO_PAGES, (x, p) -> x.insert(p, 0), NONE);
        refusedAll("the place", outOf(0, 3), (x, i) -> x.insert(0, i), NONE);
        refusedAll("the place of no words", outOf(0, 0), (x, i) -> x.insert(1, i), NONE);
        GlossaryLinker x = full();
        due("behind twenty", x.insert(2, 21), NONE);
        due("ahead of twenty", x.insert(2, -1), NONE);
    }

    private static void insertAtEveryPlace() {
        sentence("Inserts the word on the tape ahead of a word, into its section, or behind the last word, into the last section");
        String[] due = list("z a b / c", "a z b / c", "a b / z c", "a b / c z");
        for (int i = 0; i <= 3; i++) {
            GlossaryLinker x = with(list(), list(), "a b / c");
            due("insert(0, " + i + ")", on(x, "z").insert(0, i), 4);
            due("the page", page(x, 0), due[i]);
            due("the number that the new word has", x.word(0, i, 0), 'z');
        }
    }

    private static void insertIntoNoWords() {
        sentence("into a page without words as its only section");
        GlossaryLinker x = with(list(), list(), "a / b / c");
        x.page(0);
        due("a page that became empty", on(x, "z").insert(0, 0), 1);
        due("its section", x.told(0, 0, 0), 0);
        due("the only one", x.ofPage(0, 1), 1);
        x.cut(0, 0);
        due("and again", on(x, "y").insert(0, 0), 1);
        due("the only one", x.ofPage(0, 1), 1);
        due("the second word", on(x, "x").insert(0, 1), 2);
        due("the page", page(x, 0), "y x");
    }

    private static void insertIntoTwentyWords() {
        sentence("FULL if there are 20 words");
        GlossaryLinker x = full();
        refused("an empty tape", x, y -> y.insert(2, 0), FULL);
        GlossaryLinker y = full();
        for (int i = 0; i <= 20; i++) {
            due("insert(2, " + i + ")", y.insert(2, i), FULL);
        }
        due("a wrong text", on(y, "??").insert(2, 20), FULL);
        due("the tape stays", y.count(2), 2);
        due("no cause", y.cause(), NO);
        due("NONE comes first", y.insert(2, 21), NONE);
        y.cut(2, 0);
        due("nineteen words", y.insert(2, 19), -100);
        due("nineteen words", on(y, "b").insert(2, 19), 20);
        due("the twentieth", y.word(2, 19, 0), 'b');
    }

    private static void noSuchWordForReplace() {
        sentence("replace: NONE if there is no such page or word");
        refusedAll("the page", NO_PAGES, (x, p) -> x.replace(p, 0), NONE);
        refusedAll("the word", outOf(0, 2), (x, i) -> x.replace(0, i), NONE);
        refusedAll("the word of none", new int[] {0, 1, -1, LEAST, GREATEST}, (x, i) -> x.replace(1, i), NONE);
        GlossaryLinker x = full();
        due("behind twenty", x.replace(2, 20), NONE);
        due("NONE comes first", on(x, "?").replace(2, 20), NONE);
        due("the tape stays", x.count(2), 1);
        due("the last of twenty", x.replace(2, 19), -100);
        due("the last of twenty", on(x, "abcdefghij").replace(2, 19), 20);
        due("the word", text(x, 2, 19), "abcdefghij");
    }

    private static void replaceInItsSection() {
        sentence("Puts the word on the tape in place of a word.");
        String[] due = list("z / b c / d", "a / z c / d", "a / b z / d", "a / b c / z");
        for (int i = 0; i < 4; i++) {
            GlossaryLinker x = with(list(), list(), "a / b c / d");
            due("replace(0, " + i + ")", on(x, "z").replace(0, i), 4);
            due("the page", page(x, 0), due[i]);
        }
    }

    private static void noSuchWordForCut() {
        sentence("cut: NONE if there is no such page or word");
        refusedAll("the page", NO_PAGES, (x, p) -> x.cut(p, 0), NONE);
        refusedAll("the word", outOf(0, 2), (x, i) -> x.cut(0, i), NONE);
        refusedAll("the word of none", new int[] {0, 1, -1, LEAST, GREATEST}, (x, i) -> x.cut(1, i), NONE);
        GlossaryLinker x = full();
        due("behind twenty", x.cut(2, 20), NONE);
        for (int left = 19; left >= 0; left--) {
            due("the last one", x.cut(2, left), left);
        }
        due("none is left", x.cut(2, 0), NONE);
    }

    private static void cutOfASectionsOnlyWord() {
        sentence("a section without words does not exist any more, and the numbers of the later ones decrease by 1");
        String[] due = list("b c / d / e", "a / c / d / e", "a / b / d / e", "a / b c / e", "a / b c / d");
        int[] sections = {3, 4, 4, 3, 3};
        for (int i = 0; i < 5; i++) {
            GlossaryLinker x = with(list(), list(), "a / b c / d / e");
            due("cut(0, " + i + ")", x.cut(0, i), 4);
            due("the page", page(x, 0), due[i]);
            due("the sections", x.ofPage(0, 1), sections[i]);
            due("the section of the first word", x.told(0, 0, 0), 0);
            due("the section of the last word", x.told(0, 3, 0), sections[i] - 1);
        }
    }

    private static void cutToNoSections() {
        sentence("a section without words does not exist any more");
        GlossaryLinker x = with(list(), list(), "a / b");
        due("the first", x.cut(0, 0), 1);
        due("one section", x.ofPage(0, 1), 1);
        due("the last", x.cut(0, 0), 0);
        due("no section", x.ofPage(0, 1), 0);
        due("a page of four sections", on(x, "a / b / c / d").page(0), 4);
    }

    private static void sectionsThatBecomeOne() {
        sentence("a section without words does not exist any more; a word ahead of it in the same section");
        GlossaryLinker x = with(list(), list("cat:"), "cat / dog / cat");
        due("sections", row(x, 0, 1), "0 1 0");
        x.cut(0, 1);
        due("the others stay apart", row(x, 0, 0), "0 1");
        due("the others stay apart", row(x, 0, 1), "0 0");
    }

    // Promises 13 to 17

    private static void selectorOfEdited() {
        sentence("edited: NONE if what is invalid");
        refusedAll("what", outOf(0, 2), (x, what) -> x.edited(what), NONE);
        GlossaryLinker x = new GlossaryLinker();
        due("without an edit too", x.edited(3), NONE);
        due("without an edit too", x.edited(-1), NONE);
        due("a valid one", x.edited(2), NO);
    }

    private static void noSuchWordForWord() {
        sentence("word: NONE if there is no such page or word, or k is below -1");
        refusedAll("the page", NO_PAGES, (x, p) -> x.word(p, 0, 0), NONE);
        refusedAll("the word", outOf(0, 2), (x, i) -> x.word(0, i, 0), NONE);
        refusedAll("the word of none", new int[] {0, 1, -1, LEAST, GREATEST}, (x, i) -> x.word(1, i, -1), NONE);
        refusedAll("k", new int[] {-2, -3, -5, LEAST, LEAST + 1}, (x, k) -> x.word(0, 0, k), NONE);
        GlossaryLinker x = full();
        due("behind twenty", x.word(2, 20, 0), NONE);
    }

    private static void noSuchLetterOfAWord() {
        sentence("Returns the code of the letter or the length, -5 if the word has no such letter");
        GlossaryLinker x = with(list(), list(), "a abcdefghij");
        due("the length", x.word(0, 0, -1), 1);
        due("the letter", x.word(0, 0, 0), 'a');
        due("behind the letter", x.word(0, 0, 1), NO);
        due("the length", x.word(0, 1, -1), 10);
        due("the last letter", x.word(0, 1, 9), 'j');
        for (int k : new int[] {10, 11, 12, 13, 31, 32, 64, 65536, GREATEST - 1, GREATEST}) {
            due("the letter " + k, x.word(0, 1, k), NO);
        }
    }

    private static void selectorOfTold() {
        sentence("told: NONE if there is no such page or word or what is invalid");
        refusedAll("the page", NO_PAGES, (x, p) -> x.told(p, 0, 0), NONE);
        refusedAll("the word", outOf(0, 2), (x, i) -> x.told(0, i, 0), NONE);
        refusedAll("the word of none", new int[] {0, 1, -1, LEAST, GREATEST}, (x, i) -> x.told(1, i, 0), NONE);
        refusedAll("what", outOf(0, 7), (x, what) -> x.told(0, 0, what), NONE);
        GlossaryLinker x = full();
        for (int what = 0; what < 8; what++) {
            due("behind twenty", x.told(2, 20, what), NONE);
        }
    }

    private static void toldOfNoMention() {
        sentence("2 the sense to which it is linked, -5 without one; 3 its meant sense, -5 without one; "
                + "4 the score of that, -5 without one; 5 how many rules lead to its head, -5 if it is no mention");
        GlossaryLinker x = with(list("s>"), list("bank:a", "bank:b", "cat:@0"), "x banks cat");
        int[][] due = {{0, 1, NO, NO, NO, NO, 0, 1}, {0, 2, NO, NO, NO, 1, 0, 2}, {0, 3, NO, 2, 0, 0, 0, 1}};
        for (int i = 0; i < due.length; i++) {
            for (int what = 0; what < 8; what++) {
                due("told(0, " + i + ", " + what + ")", x.told(0, i, what), due[i][what]);
            }
        }
    }

    private static void linkedWordsAhead() {
        sentence("6 how many words ahead of it on the page are linked");
        GlossaryLinker x = with(list(), list("a:", "b:", "c:"), "a b / x c");
        on(x, "a").page(1);
        due("in whatever section, itself left out", row(x, 0, 6), "0 1 2 2");
        due("none of another page", row(x, 1, 6), "0");
        x.budget(0, 0);
        due("none", row(x, 0, 6), "0 0 0 0");
    }

    private static void noSuchWordForBase() {
        sentence("base: NONE if there is no such page or word, or base is below 0 or k below -1");
        refusedAll("the page", NO_PAGES, (x, p) -> x.base(p, 0, 0, 0), NONE);
        refusedAll("the word", outOf(0, 2), (x, i) -> x.base(0, i, 0, 0), NONE);
        refusedAll("the word of none", new int[] {0, 1, -1, LEAST, GREATEST}, (x, i) -> x.base(1, i, 0, -1), NONE);
        refusedAll("the base", new int[] {-1, -2, LEAST, LEAST + 1}, (x, b) -> x.base(0, 0, b, 0), NONE);
        refusedAll("k", new int[] {-2, -3, LEAST, LEAST + 1}, (x, k) -> x.base(0, 0, 0, k), NONE);
        refusedAll("k of no base", new int[] {-2, -3, LEAST, LEAST + 1}, (x, k) -> x.base(0, 0, 99, k), NONE);
        refusedAll("the base and no letter", new int[] {-1, LEAST}, (x, b) -> x.base(0, 0, b, 99), NONE);
    }

    private static void noSuchBaseOrLetter() {
        sentence("Returns the code of the letter or the length, -5 if there is no such base or letter");
        GlossaryLinker x = with(list("s>"), list(), "cats abcdefghij");
        due("the last base", x.base(0, 0, 1, -1), 3);
        due("its last letter", x.base(0, 0, 1, 2), 't');
        due("behind its last letter", x.base(0, 0, 1, 3), NO);
        due("behind the word's last letter", x.base(0, 1, 0, 10), NO);
        due("the word's last letter", x.base(0, 1, 0, 9), 'j');
        for (int far : new int[] {2, 3, 42, 43, 44, 65536, GREATEST - 1, GREATEST}) {
            due("the length of the base " + far, x.base(0, 0, far, -1), NO);
            due("a letter of the base " + far, x.base(0, 0, far, 0), NO);
        }
        for (int k : new int[] {4, 5, 10, 31, 32, 65536, GREATEST - 1, GREATEST}) {
            due("the letter " + k, x.base(0, 0, 0, k), NO);
        }
    }

    // Promises 18 to 22

    private static void selectorOfSense() {
        sentence("ofSense: NONE if there is no such sense or what is invalid");
        refusedAll("the sense", outOf(0, 1), (x, s) -> x.ofSense(s, 0), NONE);
        refusedAll("the sense's page", outOf(0, 1), (x, s) -> x.ofSense(s, 10), NONE);
        refusedAll("what", new int[] {-1, 5, 6, 7, 8, 9, 14, 15, 20, LEAST, LEAST + 10, LEAST + 13, GREATEST, -10},
                (x, what) -> x.ofSense(0, what), NONE);
        GlossaryLinker x = full();
        due("the last of eight", x.ofSense(7, 0), 1);
        due("behind eight", x.ofSense(8, 0), NONE);
    }

    private static void ofSenseWithoutWords() {
        sentence("2 its own page, -5 without one; 3 the number of words that are linked to it");
        GlossaryLinker x = with(list(), list("cat:", "dog:x@3"), "");
        int[][] due = {{3, 0, NO, 0, 0}, {3, 1, 3, 0, 0}};
        for (int s = 0; s < 2; s++) {
            for (int what = 0; what < 5; what++) {
                due("ofSense(" + s + ", " + what + ")", x.ofSense(s, what), due[s][what]);
            }
            for (int p = 0; p < 4; p++) {
                due("ofSense(" + s + ", " + (10 + p) + ")", x.ofSense(s, 10 + p), 0);
            }
        }
    }

    private static void ofSenseOnEveryPage() {
        sentence("10 + p the words of page p that are linked to it");
        GlossaryLinker x = with(list(), list("cat:@2"), "cat cat");
        on(x, "cat / cat").page(1);
        on(x, "cat / cat / cat").page(2);
        on(x, "cat / cat / cat / cat").page(3);
        int[] linked = {1, 2, 0, 4};
        for (int p = 0; p < 4; p++) {
            due("page " + p, x.ofSense(0, 10 + p), linked[p]);
        }
        due("all pages", x.ofSense(0, 3), 7);
        due("mentions", x.ofSense(0, 4), 11);
    }

    private static void selectorOfPage() {
        sentence("ofPage: NONE if there is no such page or what is invalid");
        refusedAll("the page", NO_PAGES, (x, p) -> x.ofPage(p, 0), NONE);
        refusedAll("the page's reason", NO_PAGES, (x, p) -> x.ofPage(p, 10), NONE);
        refusedAll("what", new int[] {-1, 6, 7, 8, 9, 17, 18, 20, LEAST, LEAST + 10, LEAST + 16, GREATEST, -10},
                (x, what) -> x.ofPage(0, what), NONE);
    }

    private static void ofPageWithoutWords() {
        sentence("10 + r the words with the reason r");
        GlossaryLinker x = full();
        for (int what : new int[] {0, 1, 3, 4, 5, 10, 11, 12, 13, 14, 15, 16}) {
            due("ofPage(0, " + what + ") without words", x.ofPage(0, what), 0);
            boolean twenty = what == 0 || what == 11;
            due("ofPage(2, " + what + ") without mentions", x.ofPage(2, what), twenty ? 20 : what == 1 ? 1 : 0);
        }
    }

    private static void leastBudget() {
        sentence("5 the least budget with which no word of it would have the reason 6");
        GlossaryLinker x = twentyLinks();
        due("as many as words", x.ofPage(0, 5), 20);
        x.budget(0, 0);
        due("whatever the budget is", x.ofPage(0, 5), 20);
        x.parameter(1, 9);
        due("with a gap", x.ofPage(0, 5), 2);
        x.budget(0, 1);
        due("one less is too few", x.ofPage(0, 16), 10);
        x.budget(0, 2);
        due("it is enough", x.ofPage(0, 16), 0);
        on(x, "x x").page(0);
        due("no mentions", x.ofPage(0, 5), 0);
        x.page(0);
        due("no words", x.ofPage(0, 5), 0);
        on(x, "a a a").page(0);
        due("mentions for other reasons", x.ofPage(0, 5), 1);
    }

    private static void linkOutOfRange() {
        sentence("link: -5 if there are not so many; NONE if there is no such page or k is below 0");
        refusedAll("the page", NO_PAGES, (x, p) -> x.link(p, 0), NONE);
        refusedAll("k", new int[] {-1, -2, -5, LEAST, LEAST + 1}, (x, k) -> x.link(0, k), NONE);
        refusedAll("k without words", new int[] {-1, LEAST}, (x, k) -> x.link(1, k), NONE);
        GlossaryLinker x = with(list(), list("a:", "b:"), "x a a b");
        due("the first", x.link(0, 0), 1);
        due("the last", x.link(0, 1), 3);
        for (int k : new int[] {2, 3, 20, 21, GREATEST - 1, GREATEST}) {
            due("not so many", x.link(0, k), NO);
        }
        due("none", x.link(1, 0), NO);
    }

    private static void linkOfTwenty() {
        sentence("k: its number among the linked words of the page, from 0");
        GlossaryLinker x = twentyLinks();
        for (int k = 0; k < 20; k++) {
            due("link(0, " + k + ")", x.link(0, k), k);
        }
        due("no more", x.link(0, 20), NO);
    }

    private static void noSuchLinkedWord() {
        sentence("without: NONE if there is no such page, or no such linked word");
        refusedAll("the page", NO_PAGES, (x, p) -> x.without(p, 0), NONE);
        refusedAll("k", new int[] {-1, -2, -5, LEAST, 3, 4, 20, 21, GREATEST}, (x, k) -> x.without(0, k), NONE);
        refusedAll("k without words", new int[] {0, 1, -1, LEAST, GREATEST}, (x, k) -> x.without(1, k), NONE);
        GlossaryLinker x = with(list(), list("a:"), "x a");
        due("the only one", x.without(0, 0), NO);
        due("no second one", x.without(0, 1), NONE);
        x.budget(0, 0);
        due("none is linked", x.without(0, 0), NONE);
    }

    private static void withoutTheLinkedWordItself() {
        sentence("without() leaves the linked word itself out.");
        GlossaryLinker x = with(list(), list("a:", "b:"), "a x b a");
        due("the later a", x.without(0, 0), 3);
        due("b has no later one", x.without(0, 1), NO);
        GlossaryLinker y = with(list(), list("a:"), "a");
        due("the only word", y.without(0, 0), NO);
        GlossaryLinker z = with(list(), list("a:"), times("x", 19) + " a");
        due("the last of twenty", z.without(0, 0), NO);
    }

    private static void withoutByEachReason() {
        sentence("the first word behind a linked word that would have another reason");
        GlossaryLinker x = with(list(), list("a:", "b:", "c:"), "a a b c");
        x.parameter(1, 2);
        due("reasons", row(x, 0, 1), "0 4 5 0");
        due("from 4 to 0", x.without(0, 0), 1);
        due("none behind the last", x.without(0, 1), NO);
        on(x, "a b x x c").page(0);
        due("reasons", row(x, 0, 1), "0 5 1 1 0");
        due("from 5 to 0", x.without(0, 0), 1);
        x.parameter(1, 0);
        x.budget(0, 1);
        due("reasons", row(x, 0, 1), "0 6 1 1 6");
        due("from 6 to 0", x.without(0, 0), 1);
        on(x, "a x a b").page(0);
        x.budget(0, 20);
        x.parameter(1, 1);
        due("reasons", row(x, 0, 1), "0 1 4 0");
        due("from 4 to 0", x.without(0, 0), 2);
        on(x, "x a / b a").page(0);
        due("reasons", row(x, 0, 1), "1 0 5 0");
        due("from 5 to 0", x.without(0, 0), 2);
    }

    private static void withoutGoesThroughAnew() {
        sentence("the words behind it are gone through anew in thought");
        GlossaryLinker x = with(list(), list("a:", "b:"), "a / b x x a");
        x.parameter(1, 3);
        due("reasons", row(x, 0, 1), "0 5 1 1 0");
        due("b would be linked", x.without(0, 0), 1);
        due("reasons are as before", row(x, 0, 1), "0 5 1 1 0");
        on(x, "a b / a").page(0);
        x.parameter(1, 0);
        x.budget(0, 2);
        due("reasons", row(x, 0, 1), "0 0 6");
        due("without b there is one more", x.without(0, 1), 2);
        due("the budget stays", x.ofPage(0, 2), 2);
        due("no links more", x.ofPage(0, 3), 2);
    }

    private static void againAtTheLimits() {
        sentence("Returns the number of linked words of a page by a second way");
        refusedAll("the page", NO_PAGES, (x, p) -> x.again(p), NONE);
        GlossaryLinker x = twentyLinks();
        for (int budget = 0; budget <= 20; budget++) {
            x.budget(0, budget);
            due("the budget " + budget, x.again(0), budget);
        }
        int[] linked = {20, 10, 7, 5, 4, 4, 3, 3, 3, 2};
        for (int gap = 0; gap <= 9; gap++) {
            x.parameter(1, gap);
            due("the gap " + gap, x.again(0), linked[gap]);
            due("the first way", x.ofPage(0, 3), linked[gap]);
        }
        due("no words", x.again(1), 0);
    }

    private static void againByEachReason() {
        sentence("by a second way: from the last word to the first one, each asks those ahead of it");
        String[] senses = list("cat:", "dog:@0", "bank:a", "bank:b", "ox:");
        GlossaryLinker x = with(list("s>"), senses, "x bank dog cats cat ox / cat dog ox");
        due("reasons", row(x, 0, 1), "1 2 3 0 4 0 0 3 0");
        due("no mention, no sense, its own page, linked ahead", x.again(0), 4);
        x.parameter(1, 2);
        due("reasons", row(x, 0, 1), "1 2 3 0 4 5 0 3 5");
        due("the gap", x.again(0), 2);
        x.budget(0, 1);
        due("reasons", row(x, 0, 1), "1 2 3 0 4 5 6 3 6");
        due("the budget", x.again(0), 1);
        on(x, "x bank dog").page(0);
        due("none is linked", x.again(0), 0);
        x.parameter(1, 0);
        on(x, "dog dog / dog").page(1);
        due("another page", x.again(1), 2);
    }

    // Promises 23 to 26

    private static void backAndUndoRefused() {
        sentence("A call that returns an error code leaves the state unchanged");
        GlossaryLinker x = object();
        for (int left = 5; left >= 0; left--) {
            due("back()", x.back(), left);
        }
        refused("back", x, y -> y.back(), STATE);
        refused("undo", x, y -> y.undo(), STATE);
    }

    private static void selectorOfCount() {
        sentence("count: NONE if what is invalid");
        refusedAll("what", outOf(0, 8), (x, what) -> x.count(what), NONE);
        due("in a new object", new GlossaryLinker().count(9), NONE);
    }

    private static void countsAtTheirGreatest() {
        sentence("0 the senses; 1 the rules; 2 the bytes on the tape; 3 the changes that can be undone");
        GlossaryLinker x = full();
        for (int k = 0; k < 16; k++) {
            x.feed(5, 0, 0, 0, 0, 0);
        }
        due("the senses", x.count(0), 8);
        due("the rules", x.count(1), 6);
        due("the bytes", x.count(2), 80);
        due("the changes", x.count(3), 8);
        x.parameter(0, 8);
        x.parameter(1, 9);
        due("the window", x.count(4), 8);
        due("the gap", x.count(5), 9);
    }

    private static void wordsOfAllPages() {
        sentence("6 the words of all pages; 7 the linked words of all pages");
        GlossaryLinker x = twentyLinks();
        for (int p = 1; p < 4; p++) {
            due("twenty words", on(x, page(x, 0)).page(p), 20);
        }
        due("words", x.count(6), 80);
        due("linked words", x.count(7), 80);
        x.budget(3, 0);
        x.cut(0, 0);
        due("words", x.count(6), 79);
        due("linked words", x.count(7), 59);
    }

    private static void sensesWithoutLinks() {
        sentence("8 the senses, as a set, to which no word is linked");
        GlossaryLinker x = new GlossaryLinker();
        due("no senses", x.count(8), 0);
        for (int s = 0; s < 8; s++) {
            on(x, "abcdefgh".charAt(s) + ":").sense();
            due("senses without words", x.count(8), (1 << (s + 1)) - 1);
        }
        for (int s = 0; s < 8; s++) {
            on(x, "abcdefgh".substring(s, s + 1)).page(1);
            due("all but " + s, x.count(8), 255 - (1 << s));
        }
        on(x, "a b c d").page(0);
        x.page(1);
        on(x, "e f g h").page(3);
        due("none", x.count(8), 0);
        x.budget(3, 3);
        due("the last one", x.count(8), 128);
        x.removeSense(0);
        due("the numbers decrease", x.count(8), 64);
    }

    // The paragraph on errors

    private static void textsThatAreReadEmptyTheTape() {
        sentence("calls that read the tape empty it unless they return NONE or FULL");
        GlossaryLinker x = with(list(), list(), "a b");
        Call[] reading = {y -> y.page(1), y -> y.sense(), y -> y.rule(), y -> y.insert(0, 0), y -> y.replace(0, 0)};
        for (int k = 0; k < reading.length; k++) {
            due("a wrong text, call " + k, reading[k].to(on(x, "ab??")), -102);
            due("the tape behind it", x.count(2), 0);
        }
        String[] right = list("ab", "ab:", "ab>", "ab", "ab");
        int[] answers = {1, 0, 0, 3, 3};
        for (int k = 0; k < reading.length; k++) {
            due("a right text, call " + k, reading[k].to(on(x, right[k])), answers[k]);
            due("the tape behind it", x.count(2), 0);
        }
    }

    private static void noOtherCallReadsTheTape() {
        sentence("calls that read the tape empty it");
        GlossaryLinker x = object();
        x.removeSense(0);
        x.removeRule(0);
        x.parameter(0, 1);
        x.budget(0, 1);
        x.cut(0, 0);
        x.image();
        x.back();
        x.undo();
        x.cause();
        x.again(0);
        due("the tape", x.count(2), 4);
        due("its word", x.page(1), 1);
        due("its letters", page(x, 1), "tape");
    }

    private static void wrongTextsChangeNothingElse() {
        sentence("A call that returns an error code leaves the state unchanged, except that a wrong text has its cause kept");
        Call[] reading = {x -> x.page(0), x -> x.sense(), x -> x.rule(), x -> x.insert(0, 0), x -> x.replace(0, 0)};
        for (int k = 0; k < reading.length; k++) {
            GlossaryLinker x = object();
            String state = state(x) + edits(x);
            due("call " + k, reading[k].to(on(x, "?")), -104);
            due("the state behind it", state(x) + edits(x), state);
            due("the cause", x.cause(), 1);
            due("the changes", x.count(3), 6);
        }
    }

    private static void beginningOfAWrongTextIsNotKept() {
        sentence("A call that returns an error code leaves the state unchanged");
        GlossaryLinker x = new GlossaryLinker();
        on(x, "a:b,c@1?").sense();
        due("a sense", on(x, "d:").sense(), 0);
        due("its hints", x.ofSense(0, 1), 0);
        due("its own page", x.ofSense(0, 2), NO);
        on(x, "a / b / c ?").page(0);
        due("a page", on(x, "d").page(0), 1);
        due("its words", page(x, 0), "d");
        on(x, "ab>cd?").rule();
        due("a rule", on(x, "d>").rule(), 0);
        on(x, "xxd xxab").page(0);
        due("its ending", bases(x, 0, 0), "xxd xx");
        due("its ending", bases(x, 0, 1), "xxab");
        on(x, "abc?").insert(0, 0);
        due("a word", on(x, "e").insert(0, 0), 3);
        due("its letters", text(x, 0, 0), "e");
    }

    private static void questionsChangeNothing() {
        sentence("Nothing is promised beyond the answers and state changes described above");
        GlossaryLinker x = object();
        String before = all(x);
        for (int k = 0; k < 3; k++) {
            due("again", x.again(0), x.ofPage(0, 3));
            due("the least budget", x.ofPage(0, 5), 3);
            due("without", x.without(0, k), NO);
            due("link", x.link(0, k), k);
            due("a base", x.base(0, 0, 1, -1), 3);
        }
        due("everything", all(x), before);
        due("the word on the tape", x.page(1), 1);
        due("back()", x.back(), 6);
    }

    private static void fiveHundredAndTwelveCalls() {
        sentence("An object is used for at most 512 calls after it has been made");
        GlossaryLinker x = new GlossaryLinker();
        for (int call = 1; call <= 509; call++) {
            int k = call - 1;
            due("call " + call, x.parameter(1, k % 10), k == 0 ? 0 : (k - 1) % 10);
        }
        due("call 510", x.count(3), 8);
        due("call 511", x.back(), 7);
        due("call 512", x.count(5), 507 % 10);
    }

    private static void firstErrorOfSeveral() {
        sentence("If several errors apply, the one that is listed first in the @return line is returned.");
        GlossaryLinker x = full();
        on(x, "?");
        due("feed: BAD ahead of FULL", feedOnFull(), BAD);
        due("page: NONE ahead of a wrong text", x.page(4), NONE);
        due("sense: FULL ahead of a wrong text", x.sense(), FULL);
        due("rule: FULL ahead of a wrong text", x.rule(), FULL);
        due("parameter: NONE ahead of BAD", x.parameter(2, 99), NONE);
        due("budget: NONE ahead of BAD", x.budget(4, 99), NONE);
        due("insert: NONE ahead of FULL", x.insert(2, 21), NONE);
        due("insert: NONE ahead of a wrong text", x.insert(0, 1), NONE);
        due("insert: FULL ahead of a wrong text", x.insert(2, 20), FULL);
        due("replace: NONE ahead of a wrong text", x.replace(2, 20), NONE);
        due("the tape", x.count(2), 1);
        due("the cause", x.cause(), NO);
    }

    private static int feedOnFull() {
        GlossaryLinker x = on(new GlossaryLinker(), "a".repeat(80));
        due("FULL alone", x.feed(1, 0, 0, 0, 0, 0), FULL);
        return x.feed(1, 0, 0, 0, 0, -1);
    }

    private static void noResultOnlyWithoutAnError() {
        sentence("The result -5 is returned only if no error applies.");
        GlossaryLinker x = with(list(), list("a:"), "a");
        due("no such base, k -2", x.base(0, 0, 1, -2), NONE);
        due("no such letter, no such word", x.word(0, 1, 5), NONE);
        due("no such base, no such page", x.base(4, 0, 1, 0), NONE);
        due("no such base, no such word", x.base(0, 1, 1, 0), NONE);
        due("not so many links, no such page", x.link(4, 5), NONE);
        due("no first word, no such link", x.without(0, 1), NONE);
        due("no edit, no such what", x.edited(3), NONE);
        due("no own page, no such sense", x.ofSense(1, 2), NONE);
        due("no linked sense, no such word", x.told(0, 1, 2), NONE);
    }

    private static void codesOfErrors() {
        sentence("NONE means that a number or selector is invalid, BAD that a value is out of range, "
                + "STATE that something is missing, and FULL that a limit is reached");
        GlossaryLinker x = full();
        due("a number", x.cut(0, 0), NONE);
        due("a selector", x.count(9), NONE);
        due("a value", x.budget(0, 21), BAD);
        due("something missing", x.undo(), STATE);
        due("a limit", x.rule(), FULL);
    }
}
