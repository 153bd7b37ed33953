/** Cases made by hand, a method or more for each promise of the document. */
public final class PromiseTests extends Checks {
    public static void main(String[] args) {
        newObject();
        feed();
        pages();
        pagesWrong();
        pagesFull();
        senses();
        sensesWrong();
        rules();
        rulesWrong();
        removeSense();
        removeRule();
        parameter();
        budget();
        insert();
        insertErrors();
        replace();
        cut();
        edited();
        editedStays();
        cause();
        word();
        toldPlain();
        toldMeaning();
        toldReasons();
        toldWindow();
        base();
        baseOrder();
        ofSense();
        ofPage();
        link();
        without();
        again();
        back();
        backAll();
        image();
        undo();
        count();
        end("all promises hold");
    }

    private static void newObject() {
        sentence("promise 1");
        GlossaryLinker x = new GlossaryLinker();
        for (int what = 0; what <= 8; what++) {
            due("count(" + what + ")", x.count(what), what == 4 ? 3 : 0);
        }
        for (int p = 0; p < 4; p++) {
            due("words", x.ofPage(p, 0), 0);
            due("sections", x.ofPage(p, 1), 0);
            due("budget", x.ofPage(p, 2), 20);
            due("links", x.ofPage(p, 3), 0);
            due("mentions", x.ofPage(p, 4), 0);
            due("least budget", x.ofPage(p, 5), 0);
        }
        due("cause()", x.cause(), NO);
        due("edited(0)", x.edited(0), NO);
        due("back()", x.back(), STATE);
        due("undo()", x.undo(), STATE);
        due("NONE", GlossaryLinker.NONE, NONE);
        due("BAD", GlossaryLinker.BAD, BAD);
        due("STATE", GlossaryLinker.STATE, STATE);
        due("FULL", GlossaryLinker.FULL, FULL);
    }

    private static void feed() {
        sentence("promise 2");
        GlossaryLinker x = new GlossaryLinker();
        due("none", x.feed(0, 1, 1, 1, 1, 1), BAD);
        due("six", x.feed(6, 1, 1, 1, 1, 1), BAD);
        due("least n", x.feed(Integer.MIN_VALUE, 1, 1, 1, 1, 1), BAD);
        due("greatest n", x.feed(Integer.MAX_VALUE, 1, 1, 1, 1, 1), BAD);
        due("a 128", x.feed(1, 128, 0, 0, 0, 0), BAD);
        due("b 128 not appended", x.feed(1, 0, 128, 0, 0, 0), BAD);
        due("c -1 not appended", x.feed(2, 0, 0, -1, 0, 0), BAD);
        due("d 128", x.feed(4, 0, 0, 0, 128, 0), BAD);
        due("e -1 not appended", x.feed(1, 0, 0, 0, 0, -1), BAD);
        due("nothing yet", x.count(2), 0);
        due("0 and 127", x.feed(5, 0, 127, 0, 127, 0), 5);
        for (int k = 1; k < 15; k++) {
            due("five more", x.feed(5, 'a', 'b', 'c', 'd', 'e'), 5 + 5 * k);
        }
        due("four more", x.feed(4, 1, 2, 3, 4, 5), 79);
        due("two too many", x.feed(2, 1, 1, 0, 0, 0), FULL);
        due("BAD first", x.feed(2, 1, 1, 0, 0, 128), BAD);
        due("none appended", x.count(2), 79);
        due("the last one", x.feed(1, 1, 0, 0, 0, 0), 80);
        due("one too many", x.feed(1, 1, 0, 0, 0, 0), FULL);
        due("80 bytes", x.count(2), 80);
        GlossaryLinker y = new GlossaryLinker();
        y.feed(3, 'x', 'y', 'z', 'q', 'q');
        y.feed(2, 'a', 'b', 'q', 'q', 'q');
        y.page(0);
        due("the bytes in their order", page(y, 0), "xyzab");
    }

    private static void pages() {
        sentence("promise 3");
        GlossaryLinker x = new GlossaryLinker();
        due("a page", on(x, "ab c / def / g h").page(2), 5);
        due("its words", page(x, 2), "ab c / def / g h");
        due("the tape is empty", x.count(2), 0);
        due("another page", x.ofPage(1, 0), 0);
        due("in place of earlier ones", on(x, "zz").page(2), 1);
        due("its words then", page(x, 2), "zz");
        on(x, "yy").budget(2, 7);
        due("no such page", x.page(4), NONE);
        due("no such page", x.page(-1), NONE);
        due("no such page", x.page(Integer.MIN_VALUE), NONE);
        due("the tape stays", x.count(2), 2);
        due("with it", x.page(3), 1);
        due("an empty tape", x.page(2), 0);
        due("no words", x.ofPage(2, 0), 0);
        due("no sections", x.ofPage(2, 1), 0);
        due("the budget stays", x.ofPage(2, 2), 7);
    }

    private static void wrongPage(String text, int place, int cause) {
        GlossaryLinker x = new GlossaryLinker();
        on(x, "old one").page(1);
        due("page of <" + text + ">", on(x, text).page(1), -100 - place);
        due("cause of <" + text + ">", x.cause(), cause);
        due("the tape after <" + text + ">", x.count(2), 0);
        due("the page after <" + text + ">", page(x, 1), "old one");
        due("changes after <" + text + ">", x.count(3), 1);
    }

    private static void pagesWrong() {
        sentence("promise 3");
        wrongPage(" a", 0, 1);
        wrongPage("A", 0, 1);
        wrongPage("/", 0, 1);
        wrongPage("`", 0, 1);
        wrongPage("{", 0, 1);
        wrongPage("a\0", 1, 1);
        wrongPage("a/b", 1, 1);
        wrongPage("a ", 2, 1);
        wrongPage("a  b", 2, 1);
        wrongPage("a /", 3, 1);
        wrongPage("a / ", 4, 1);
        wrongPage("a /b", 3, 1);
        wrongPage("a / / b", 4, 1);
        wrongPage("a b,", 3, 1);
        wrongPage("abcdefghijk", 10, 2);
        wrongPage("a / abcdefghijklmno ?", 14, 2);
        wrongPage("abcdefghij?", 10, 1);
        wrongPage("a / b / c / d / e", 14, 3);
        wrongPage("a / b / c / d /", 14, 3);
        wrongPage("a / b / c / d /x", 14, 3);
        wrongPage("a / b / c / d ", 14, 1);
        wrongPage("a / b / c / d ?", 14, 1);
    }

    private static void pagesFull() {
        sentence("promise 3");
        String twenty = times("a", 20);
        wrongPage(twenty + " b", 40, 3);
        wrongPage(twenty + " abcdefghijklm", 40, 3);
        wrongPage(twenty + " / b", 42, 3);
        wrongPage(twenty + " / ", 42, 1);
        wrongPage(twenty + " /", 41, 1);
        wrongPage(twenty + " ", 40, 1);
        wrongPage(twenty + " ?", 40, 1);
        wrongPage("a / b / c / " + times("d", 17) + " / e", 46, 3);
        GlossaryLinker x = new GlossaryLinker();
        due("twenty words", on(x, twenty).page(0), 20);
        due("four sections", on(x, "a / b / c / d").page(0), 4);
        due("of them", x.ofPage(0, 1), 4);
        due("ten letters", on(x, "abcdefghij zyxwvutsrq").page(0), 2);
        due("as they are", page(x, 0), "abcdefghij zyxwvutsrq");
        String eighty = "abcdefghij abcdefghij abcdefghij abcdefghij abcdefghij abcdefghij abcdefghij abc";
        due("eighty bytes", on(x, eighty).page(0), 8);
        due("as they are", page(x, 0), eighty);
    }

    private static void senses() {
        sentence("promise 4");
        GlossaryLinker x = new GlossaryLinker();
        due("no hints", on(x, "ab:").sense(), 0);
        due("a hint", on(x, "abc:x").sense(), 1);
        due("four hints", on(x, "a:x,y,z,x@3").sense(), 2);
        due("an own page alone", on(x, "abcdefghij:@0").sense(), 3);
        int[][] rows = {{2, 0, NO}, {3, 1, NO}, {1, 4, 3}, {10, 0, 0}};
        for (int s = 0; s < rows.length; s++) {
            for (int what = 0; what < 3; what++) {
                due("ofSense(" + s + ", " + what + ")", x.ofSense(s, what), rows[s][what]);
            }
        }
        for (int s = 4; s < 8; s++) {
            due("the same again", on(x, "ab:").sense(), s);
        }
        due("a ninth", on(x, "ab:").sense(), FULL);
        due("the tape stays", x.count(2), 3);
        due("as many", x.count(0), 8);
        due("FULL is no change", x.count(3), 8);
        x.removeSense(0);
        due("room again", x.sense(), 7);
        due("FULL with an empty tape", x.sense(), FULL);
        due("FULL whatever the tape is", on(x, "?").sense(), FULL);
        due("no cause", x.cause(), NO);
    }

    private static void wrongSense(String text, int place, int cause) {
        GlossaryLinker x = new GlossaryLinker();
        due("sense of <" + text + ">", on(x, text).sense(), -100 - place);
        due("cause of <" + text + ">", x.cause(), cause);
        due("the tape after <" + text + ">", x.count(2), 0);
        due("the senses after <" + text + ">", x.count(0), 0);
    }

    private static void sensesWrong() {
        sentence("promise 4");
        wrongSense("", 0, 1);
        wrongSense(":", 0, 1);
        wrongSense("a", 1, 1);
        wrongSense("a b", 1, 1);
        wrongSense("abcdefghijk:", 10, 2);
        wrongSense("a: b", 2, 1);
        wrongSense("a:,", 2, 1);
        wrongSense("a:b,", 4, 1);
        wrongSense("a:b,@1", 4, 1);
        wrongSense("a:b,,c", 4, 1);
        wrongSense("a:b c", 3, 1);
        wrongSense("a:b:c", 3, 1);
        wrongSense("a:abcdefghijk", 12, 2);
        wrongSense("a:b,c,d,e,f", 10, 3);
        wrongSense("a:b,c,d,e,abcdefghijkl", 10, 3);
        wrongSense("a:b,c,d,e,", 10, 1);
        wrongSense("a:b,c,d,e,@0", 10, 1);
        wrongSense("a:@", 3, 1);
        wrongSense("a:@4", 3, 1);
        wrongSense("a:@/", 3, 1);
        wrongSense("a:b@x", 4, 1);
        wrongSense("a:b@0,c", 5, 1);
        wrongSense("a:@12", 4, 1);
        wrongSense("a@1", 1, 1);
    }

    private static void rules() {
        sentence("promise 5");
        GlossaryLinker x = new GlossaryLinker();
        due("no replacement", on(x, "s>").rule(), 0);
        due("the longest", on(x, "abcd>efg").rule(), 1);
        on(x, "xxabcd xxs yabcd xxbcd").page(0);
        due("applied", bases(x, 0, 0), "xxabcd xxefg");
        due("applied", bases(x, 0, 1), "xxs xx");
        due("one letter ahead is too few", bases(x, 0, 2), "yabcd");
        due("another ending", bases(x, 0, 3), "xxbcd");
        for (int r = 2; r < 6; r++) {
            due("the same again", on(x, "s>").rule(), r);
        }
        due("a seventh", on(x, "s>").rule(), FULL);
        due("the tape stays", x.count(2), 2);
        due("as many", x.count(1), 6);
        x.removeRule(0);
        due("room again", x.rule(), 5);
        due("FULL with an empty tape", x.rule(), FULL);
        due("FULL whatever the tape is", on(x, "?").rule(), FULL);
        due("no cause", x.cause(), NO);
    }

    private static void wrongRule(String text, int place, int cause) {
        GlossaryLinker x = new GlossaryLinker();
        due("rule of <" + text + ">", on(x, text).rule(), -100 - place);
        due("cause of <" + text + ">", x.cause(), cause);
        due("the tape after <" + text + ">", x.count(2), 0);
        due("the rules after <" + text + ">", x.count(1), 0);
    }

    private static void rulesWrong() {
        sentence("promise 5");
        wrongRule("", 0, 1);
        wrongRule(">", 0, 1);
        wrongRule("a", 1, 1);
        wrongRule("abcd", 4, 1);
        wrongRule("abcde", 4, 2);
        wrongRule("abcde>", 4, 2);
        wrongRule("abcd?", 4, 1);
        wrongRule("a>bcde", 5, 2);
        wrongRule("a>bcd?", 5, 1);
        wrongRule("a>b>", 3, 1);
        wrongRule("a >b", 1, 1);
        wrongRule("a> ", 2, 1);
        wrongRule("a:b", 1, 1);
    }

    private static void removeSense() {
        sentence("promise 6");
        GlossaryLinker x = with(list(), list("cat:", "dog:@1", "ox:"), "ox dog cat");
        due("no such sense", x.removeSense(3), NONE);
        due("no such sense", x.removeSense(-1), NONE);
        due("no such sense", x.removeSense(Integer.MAX_VALUE), NONE);
        due("links", row(x, 0, 2), "2 1 0");
        due("the first", x.removeSense(0), 2);
        due("links at once", row(x, 0, 2), "1 0 -5");
        due("the later ones", x.ofSense(0, 2), 1);
        due("the later ones", x.ofSense(1, 0), 2);
        due("the last", x.removeSense(1), 1);
        due("no more", x.removeSense(1), NONE);
        due("the only one", x.removeSense(0), 0);
        due("no senses", x.count(0), 0);
        due("no mentions", x.ofPage(0, 4), 0);
        due("one again", on(x, "cat:").sense(), 0);
        due("without an old own page", x.ofSense(0, 2), NO);
    }

    private static void removeRule() {
        sentence("promise 7");
        GlossaryLinker x = with(list("s>", "es>x", "ses>y"), list("bus:"), "buses bus");
        due("bases", bases(x, 0, 0), "buses buse busx buy");
        due("no such rule", x.removeRule(3), NONE);
        due("no such rule", x.removeRule(-1), NONE);
        due("the first", x.removeRule(0), 2);
        due("bases at once", bases(x, 0, 0), "buses busx buy");
        due("the later ones", x.removeRule(0), 1);
        due("bases then", bases(x, 0, 0), "buses buy");
        due("the only one", x.removeRule(0), 0);
        due("no more", x.removeRule(0), NONE);
        due("one again", on(x, "es>").rule(), 0);
        due("links at once", row(x, 0, 1), "0 4");
        GlossaryLinker y = with(list("s>a", "s>b", "s>c"), list(), "xxs");
        due("the middle one", y.removeRule(1), 2);
        due("another behind the later ones", on(y, "s>d").rule(), 2);
        due("bases", bases(y, 0, 0), "xxs xxa xxc xxd");
        due("the last", y.removeRule(2), 2);
        due("another in its place", on(y, "s>e").rule(), 2);
        due("bases", bases(y, 0, 0), "xxs xxa xxc xxe");
    }

    private static void parameter() {
        sentence("promise 8");
        GlossaryLinker x = new GlossaryLinker();
        due("what 2", x.parameter(2, 0), NONE);
        due("what -1", x.parameter(-1, 0), NONE);
        due("NONE first", x.parameter(2, -1), NONE);
        due("window -1", x.parameter(0, -1), BAD);
        due("window 9", x.parameter(0, 9), BAD);
        due("gap -1", x.parameter(1, -1), BAD);
        due("gap 10", x.parameter(1, 10), BAD);
        due("no changes", x.count(3), 0);
        due("window 8", x.parameter(0, 8), 3);
        due("window 0", x.parameter(0, 0), 8);
        due("gap 9", x.parameter(1, 9), 0);
        due("gap 0", x.parameter(1, 0), 9);
        due("window", x.count(4), 0);
        due("gap 4", x.parameter(1, 4), 0);
        due("gap", x.count(5), 4);
        due("nothing different", x.parameter(1, 4), 4);
        due("all changes", x.count(3), 6);
    }

    private static void budget() {
        sentence("promise 9");
        GlossaryLinker x = with(list(), list("a:", "b:"), "a b");
        due("no such page", x.budget(4, 0), NONE);
        due("no such page", x.budget(-1, 0), NONE);
        due("NONE first", x.budget(4, 21), NONE);
        due("21", x.budget(0, 21), BAD);
        due("-1", x.budget(0, -1), BAD);
        due("one", x.budget(0, 1), 20);
        due("reasons", row(x, 0, 1), "0 6");
        due("zero", x.budget(0, 0), 1);
        due("reasons", row(x, 0, 1), "6 6");
        due("twenty", x.budget(0, 20), 0);
        due("reasons", row(x, 0, 1), "0 0");
        due("another page", x.budget(3, 5), 20);
        due("of that page", x.ofPage(3, 2), 5);
        due("of this page", x.ofPage(0, 2), 20);
    }

    private static void insert() {
        sentence("promise 10");
        GlossaryLinker x = new GlossaryLinker();
        due("into no words", on(x, "m").insert(1, 0), 1);
        due("its only section", page(x, 1), "m");
        due("one section", x.ofPage(1, 1), 1);
        on(x, "a b / c d").page(1);
        due("ahead of a first word", on(x, "x").insert(1, 0), 5);
        due("into its section", page(x, 1), "x a b / c d");
        due("ahead of a section's first word", on(x, "y").insert(1, 3), 6);
        due("into its section", page(x, 1), "x a b / y c d");
        due("ahead of another word", on(x, "w").insert(1, 2), 7);
        due("into its section", page(x, 1), "x a w b / y c d");
        due("behind the last word", on(x, "zzz").insert(1, 7), 8);
        due("into the last section", page(x, 1), "x a w b / y c d zzz");
        due("the tape is empty", x.count(2), 0);
        due("other pages", x.count(6), 8);
        on(x, "a / b").page(1);
        due("behind a section's only word", on(x, "c").insert(1, 2), 3);
        due("into its section", page(x, 1), "a / b c");
        due("ahead of a section's only word", on(x, "d").insert(1, 1), 4);
        due("into its section", page(x, 1), "a / d b c");
    }

    private static void insertErrors() {
        sentence("promise 10");
        GlossaryLinker x = new GlossaryLinker();
        on(x, "a b").page(1);
        on(x, "?");
        due("no such page", x.insert(4, 0), NONE);
        due("no such page", x.insert(-1, 0), NONE);
        due("below 0", x.insert(1, -1), NONE);
        due("above the words", x.insert(1, 3), NONE);
        due("far above the words", x.insert(1, Integer.MAX_VALUE), NONE);
        due("the tape stays", x.count(2), 1);
        due("a wrong text", x.insert(1, 2), -100);
        due("no word", x.insert(1, 2), -100);
        due("its cause", x.cause(), 1);
        due("two words", on(x, "a b").insert(1, 2), -101);
        due("eleven letters", on(x, "abcdefghijk").insert(1, 2), -110);
        due("its cause", x.cause(), 2);
        due("no words came", page(x, 1), "a b");
        due("no edit", x.edited(0), NO);
        on(x, times("a", 20)).page(1);
        due("into twenty words", on(x, "?").insert(1, 20), FULL);
        due("the tape stays", x.count(2), 1);
        due("NONE first", x.insert(1, 21), NONE);
        x.cut(1, 0);
        due("the wrong text still", x.insert(1, 19), -100);
        due("the twentieth", on(x, "b").insert(1, 19), 20);
    }

    private static void replace() {
        sentence("promise 11");
        GlossaryLinker x = new GlossaryLinker();
        on(x, "a b / c").page(3);
        due("the last word", on(x, "xyz").replace(3, 2), 3);
        due("the words", page(x, 3), "a b / xyz");
        due("the first word", on(x, "q").replace(3, 0), 3);
        due("the words", page(x, 3), "q b / xyz");
        due("no such page", on(x, "?").replace(4, 0), NONE);
        due("no such page", x.replace(-1, 0), NONE);
        due("no such word", x.replace(3, 3), NONE);
        due("no such word", x.replace(3, -1), NONE);
        due("no words", x.replace(0, 0), NONE);
        due("the tape stays", x.count(2), 1);
        due("a wrong text", x.replace(3, 0), -100);
        due("no word", x.replace(3, 0), -100);
        due("a sense", on(x, "ab:").replace(3, 0), -102);
        due("eleven letters", on(x, "abcdefghijklm").replace(3, 0), -110);
        due("its cause", x.cause(), 2);
        due("the words", page(x, 3), "q b / xyz");
        on(x, times("a", 20)).page(3);
        due("one of twenty", on(x, "b").replace(3, 19), 20);
    }

    private static void cut() {
        sentence("promise 12");
        GlossaryLinker x = new GlossaryLinker();
        on(x, "a / b c / d / e").page(0);
        on(x, "tape");
        due("no such page", x.cut(4, 0), NONE);
        due("no such page", x.cut(-1, 0), NONE);
        due("no such word", x.cut(0, 5), NONE);
        due("no such word", x.cut(0, -1), NONE);
        due("no words", x.cut(1, 0), NONE);
        due("of two in a section", x.cut(0, 2), 4);
        due("sections", row(x, 0, 0), "0 1 2 3");
        due("a first section", x.cut(0, 0), 3);
        due("sections", row(x, 0, 0), "0 1 2");
        due("a middle section", x.cut(0, 1), 2);
        due("sections", row(x, 0, 0), "0 1");
        due("the words", page(x, 0), "b / e");
        due("the last section", x.cut(0, 1), 1);
        due("the words", page(x, 0), "b");
        due("the last word", x.cut(0, 0), 0);
        due("no sections", x.ofPage(0, 1), 0);
        due("no more", x.cut(0, 0), NONE);
        due("the tape stays", x.count(2), 4);
        due("into the page again", x.insert(0, 0), 1);
        on(x, "a b / c d").page(2);
        due("of two in the first section", x.cut(2, 1), 3);
        due("the sections stay", page(x, 2), "a / c d");
        due("of two in the last section", x.cut(2, 1), 2);
        due("the sections stay", page(x, 2), "a / d");
        due("its section", x.told(0, 0, 0), 0);
    }

    private static void edited() {
        sentence("promise 13");
        GlossaryLinker x = with(list(), list("cat:", "dog:"), "cat dog cat / ox");
        due("no edit", x.edited(2), NO);
        due("what 3", x.edited(3), NONE);
        due("what -1", x.edited(-1), NONE);
        x.cut(0, 0);
        due("the next cat came", edits(x), "1 1 1");
        on(x, "dog").insert(0, 0);
        due("an earlier dog", edits(x), "1 1 0");
        on(x, "ox").insert(0, 0);
        due("numbers alone", edits(x), "0 0 -5");
        on(x, "dog").replace(0, 1);
        due("the replaced word is another one", edits(x), "1 1 1");
        on(x, "cat").replace(0, 4);
        due("a word that is not linked before", edits(x), "1 0 4");
        x.cut(0, 4);
        due("a word that is linked no more", edits(x), "0 1 -5");
        GlossaryLinker y = with(list(), list("bank:money", "bank:river"), "money bank bank");
        due("links", row(y, 0, 2), "-5 0 -5");
        on(y, "river").replace(0, 0);
        due("to another sense", edits(y), "1 1 1");
        due("links", row(y, 0, 2), "-5 1 -5");
    }

    private static void editedStays() {
        sentence("promise 13");
        GlossaryLinker x = with(list(), list("cat:", "dog:"), "cat cat dog");
        x.cut(0, 0);
        due("an edit", edits(x), "1 1 0");
        x.image();
        x.back();
        due("at back()", edits(x), "1 1 0");
        on(x, "ox").page(0);
        due("at page()", edits(x), "1 1 0");
        x.undo();
        due("at undo()", edits(x), "1 1 0");
        x.cut(0, 9);
        on(x, "?").replace(0, 0);
        x.removeSense(0);
        due("at errors and other changes", edits(x), "1 1 0");
        x.cut(0, 0);
        due("another edit", edits(x), "0 0 -5");
        on(x, "cat cat cat").page(1);
        on(x, "cat:").sense();
        x.cut(1, 0);
        due("another page", edits(x), "1 1 0");
    }

    private static void cause() {
        sentence("promise 14");
        GlossaryLinker x = new GlossaryLinker();
        due("none", x.cause(), NO);
        on(x, "a").page(0);
        due("none of a right text", x.cause(), NO);
        on(x, "abcdefghijk").page(0);
        due("too long", x.cause(), 2);
        on(x, "a").page(0);
        due("a right text leaves it", x.cause(), 2);
        x.image();
        on(x, "a:b,c,d,e,f").sense();
        due("too many", x.cause(), 3);
        x.back();
        x.undo();
        due("it is in no snapshot", x.cause(), 3);
        on(x, "a>?").rule();
        due("the form", x.cause(), 1);
        on(x, "abcde").rule();
        due("an ending", x.cause(), 2);
        x.insert(0, 0);
        due("no word", x.cause(), 1);
    }

    private static void word() {
        sentence("promise 15");
        GlossaryLinker x = new GlossaryLinker();
        on(x, "azbycxdwev q").page(2);
        due("length", x.word(2, 0, -1), 10);
        String letters = "azbycxdwev";
        for (int k = 0; k < 10; k++) {
            due("letter " + k, x.word(2, 0, k), letters.charAt(k));
        }
        due("no such letter", x.word(2, 0, 10), NO);
        due("no such letter", x.word(2, 1, 1), NO);
        due("no such letter", x.word(2, 1, Integer.MAX_VALUE), NO);
        due("k -2", x.word(2, 0, -2), NONE);
        due("least k", x.word(2, 0, Integer.MIN_VALUE), NONE);
        due("no such word", x.word(2, 2, 0), NONE);
        due("no such word", x.word(2, -1, 0), NONE);
        due("no such page", x.word(4, 0, 0), NONE);
        due("no such page", x.word(-1, 0, 0), NONE);
        due("no words", x.word(0, 0, -1), NONE);
    }

    private static void toldPlain() {
        sentence("promise 16");
        GlossaryLinker x = with(list("s>", "e>"), list("cat:", "dog:"), "cat ox / dogs cates dog");
        due("sections", row(x, 0, 0), "0 0 1 1 1");
        due("reasons", row(x, 0, 1), "0 1 0 0 4");
        due("linked senses", row(x, 0, 2), "0 -5 1 0 -5");
        due("meant senses", row(x, 0, 3), "0 -5 1 0 1");
        due("scores", row(x, 0, 4), "0 -5 0 0 0");
        due("rules", row(x, 0, 5), "0 -5 1 2 0");
        due("links ahead", row(x, 0, 6), "0 1 1 2 3");
        due("bases", row(x, 0, 7), "1 1 2 3 1");
        due("what 8", x.told(0, 0, 8), NONE);
        due("what -1", x.told(0, 0, -1), NONE);
        due("no such word", x.told(0, 5, 0), NONE);
        due("no such word", x.told(0, -1, 0), NONE);
        due("no such page", x.told(4, 0, 0), NONE);
        due("no such page", x.told(-1, 0, 0), NONE);
        due("no words", x.told(1, 0, 0), NONE);
    }

    private static void toldMeaning() {
        sentence("promise 16");
        GlossaryLinker x = with(list("s>", "ks>k"),
                list("bank:river,loan", "bank:money,loan,money", "bank:loan,river,money"),
                "loans bank / river bank / bank / river money banks");
        due("the lowest of the greatest; none of several without hints; twice counts twice",
                row(x, 0, 3), "-5 0 -5 0 -5 -5 -5 1");
        due("their scores", row(x, 0, 4), "-5 1 -5 1 -5 -5 -5 2");
        due("reasons", row(x, 0, 1), "1 0 1 0 2 1 1 0");
        x.removeSense(0);
        due("then", row(x, 0, 3), "-5 0 -5 1 -5 -5 -5 0");
        x.removeSense(0);
        due("an only sense needs no hint", row(x, 0, 3), "-5 0 -5 0 0 -5 -5 0");
        due("its scores", row(x, 0, 4), "-5 1 -5 1 0 -5 -5 2");
        GlossaryLinker y = with(list("s>"), list("cat:", "cats:"), "cats cat catss");
        due("the head is the first base", row(y, 0, 3), "1 0 1");
        due("by as many rules", row(y, 0, 5), "0 0 1");
    }

    private static void toldReasons() {
        sentence("promise 16");
        GlossaryLinker x = with(list(), list("cat:", "dog:@0", "cow:a", "cow:b", "pig:"),
                "ox cow dog cat cat pig pig / cat pig");
        due("reasons", row(x, 0, 1), "1 2 3 0 4 0 4 0 0");
        x.parameter(1, 1);
        due("with a gap of 1", row(x, 0, 1), "1 2 3 0 4 0 4 0 5");
        x.parameter(1, 2);
        due("with a gap of 2", row(x, 0, 1), "1 2 3 0 4 5 0 5 5");
        x.parameter(1, 5);
        due("with a gap of 5", row(x, 0, 1), "1 2 3 0 4 5 5 5 5");
        x.parameter(1, 4);
        due("with a gap of 4", row(x, 0, 1), "1 2 3 0 4 5 5 5 0");
        x.budget(0, 1);
        due("with a budget", row(x, 0, 1), "1 2 3 0 4 5 5 5 6");
        x.parameter(1, 0);
        due("with no gap", row(x, 0, 1), "1 2 3 0 4 6 6 6 6");
        x.budget(0, 0);
        due("with no budget", row(x, 0, 1), "1 2 3 6 6 6 6 6 6");
        due("meant senses", row(x, 0, 3), "-5 -5 1 0 0 4 4 0 4");
        due("linked senses", row(x, 0, 2), "-5 -5 -5 -5 -5 -5 -5 -5 -5");
    }

    private static void toldWindow() {
        sentence("promise 16");
        String[] senses = list("bank:river", "bank:money");
        GlossaryLinker x = with(list(), senses, "river a b bank money a b c bank");
        due("the window is 3", row(x, 0, 4), "-5 -5 -5 1 -5 -5 -5 -5 -5");
        x.parameter(0, 4);
        due("the window is 4", row(x, 0, 3), "-5 -5 -5 0 -5 -5 -5 -5 1");
        x.parameter(0, 2);
        due("the window is 2", row(x, 0, 1), "1 1 1 2 1 1 1 1 2");
        x.parameter(0, 8);
        due("the lowest of two", row(x, 0, 3), "-5 -5 -5 0 -5 -5 -5 -5 0");
        x.parameter(0, 0);
        due("no window", row(x, 0, 1), "1 1 1 2 1 1 1 1 2");
        x.parameter(0, 8);
        on(x, "river / bank money / a bank bank river").page(0);
        due("the same section alone", row(x, 0, 1), "1 2 1 1 2 2 1");
    }

    private static void base() {
        sentence("promise 17");
        GlossaryLinker x = with(list("ies>y"), list(), "cities ox");
        due("the word itself", x.base(0, 0, 0, -1), 6);
        due("its letter", x.base(0, 0, 0, 3), 'i');
        due("a base", x.base(0, 0, 1, -1), 4);
        due("its letter", x.base(0, 0, 1, 3), 'y');
        due("no such letter", x.base(0, 0, 1, 4), NO);
        due("no such base", x.base(0, 0, 2, -1), NO);
        due("no such base", x.base(0, 0, Integer.MAX_VALUE, 0), NO);
        due("no such base", x.base(0, 1, 1, 0), NO);
        due("base -1", x.base(0, 0, -1, 0), NONE);
        due("k -2", x.base(0, 0, 0, -2), NONE);
        due("k -2 of no base", x.base(0, 0, 9, -2), NONE);
        due("no such word", x.base(0, 2, 0, 0), NONE);
        due("no such word", x.base(0, -1, 0, 0), NONE);
        due("no such page", x.base(4, 0, 0, 0), NONE);
        due("no such page", x.base(-1, 0, 0, 0), NONE);
    }

    private static void baseOrder() {
        sentence("promise 17");
        GlossaryLinker x = with(list("a>b", "b>c", "c>a"), list(), "xxa xa");
        due("the order; a base that comes again", bases(x, 0, 0), "xxa xxb xxc");
        due("two letters ahead of the ending", bases(x, 0, 1), "xa");
        GlossaryLinker y = with(list("s>", "es>e", "e>", "d>ddd"), list(), "xxes abcdefghd abcdefgd");
        due("one rule ahead of two", bases(y, 0, 0), "xxes xxe xx");
        due("at most ten letters", bases(y, 0, 1), "abcdefghd");
        due("at most ten letters", bases(y, 0, 2), "abcdefgd abcdefgddd");
        GlossaryLinker z = with(list("s>x", "s>y", "x>p", "y>q", "s>"), list(), "aass aas");
        due("first the rule applied first", bases(z, 0, 0),
                "aass aasx aasy aas aasp aasq aax aay aa");
        due("the same rule twice", bases(z, 0, 1), "aas aax aay aa aap aaq");
        due("their number", x.told(0, 0, 7), 3);
        GlossaryLinker w = with(list("b>bb", "bb>"), list(), "aaaaaaaab");
        due("on the way too", bases(w, 0, 0), "aaaaaaaab aaaaaaaabb aaaaaaaa");
        GlossaryLinker v = with(list("s>"), list(), "catss");
        due("two rules", bases(v, 0, 0), "catss cats cat");
        on(v, "ox").page(0);
        due("none of the word ahead", bases(v, 0, 0), "ox");
        basesMost();
    }

    private static void basesMost() {
        String[] rules = list("s>as", "s>bs", "s>cs", "s>ds", "s>es", "s>fs");
        GlossaryLinker x = with(rules, list("zzffs:"), "zzs yyyyyyyyys yyyyyyyys yyyyyyyyyy");
        StringBuilder all = new StringBuilder("zzs");
        for (char a = 'a'; a <= 'f'; a++) {
            all.append(" zz").append(a).append('s');
        }
        for (char a = 'a'; a <= 'f'; a++) {
            for (char b = 'a'; b <= 'f'; b++) {
                all.append(" zz").append(a).append(b).append('s');
            }
        }
        due("all of them", bases(x, 0, 0), all.toString());
        due("their number", x.told(0, 0, 7), 43);
        due("the last of them is a head", x.told(0, 0, 5), 2);
        due("no room for a letter more", x.told(0, 1, 7), 1);
        due("room for one letter", x.told(0, 2, 7), 7);
        GlossaryLinker y = with(list("j>xyz", "abcd>x", "d>y"), list(), "abcdefghij zzzzzzabcd");
        due("at most ten letters", bases(y, 0, 0), "abcdefghij");
        due("ten letters", bases(y, 0, 1), "zzzzzzabcd zzzzzzx zzzzzzabcy");
    }

    private static void ofSense() {
        sentence("promise 18");
        GlossaryLinker x = with(list("s>"), list("cat:x,y@1", "dog:", "cow:z", "cow:"), "cat cats / cat dog");
        on(x, "cat dog dogs").page(1);
        on(x, "cow z cow").page(3);
        due("length of its head", x.ofSense(0, 0), 3);
        due("hints", x.ofSense(0, 1), 2);
        due("own page", x.ofSense(0, 2), 1);
        due("no own page", x.ofSense(1, 2), NO);
        due("linked words", x.ofSense(0, 3), 2);
        due("mentions", x.ofSense(0, 4), 4);
        due("linked words", x.ofSense(1, 3), 2);
        due("mentions", x.ofSense(1, 4), 3);
        due("mentions of several", x.ofSense(2, 4), 1);
        due("mentions of several", x.ofSense(3, 4), 0);
        int[] linked = {2, 0, 0, 0, 1, 1, 0, 0, 0, 0, 0, 1};
        for (int s = 0; s < 3; s++) {
            for (int p = 0; p < 4; p++) {
                due("ofSense(" + s + ", " + (10 + p) + ")", x.ofSense(s, 10 + p), linked[4 * s + p]);
            }
        }
        for (int what : new int[] {-1, 5, 9, 14, Integer.MIN_VALUE, Integer.MAX_VALUE, Integer.MIN_VALUE + 11}) {
            due("what " + what, x.ofSense(0, what), NONE);
        }
        due("no such sense", x.ofSense(4, 0), NONE);
        due("no such sense", x.ofSense(-1, 0), NONE);
    }

    private static void ofPage() {
        sentence("promise 19");
        GlossaryLinker x = with(list(), list("a:", "b:@0", "c:x", "c:y", "d:"),
                "q b c a a d / d a c / a q");
        int[] due = {11, 3, 20, 5, 9, 5};
        for (int what = 0; what < due.length; what++) {
            due("ofPage(0, " + what + ")", x.ofPage(0, what), due[what]);
        }
        x.budget(0, 3);
        x.parameter(1, 1);
        due("reasons", row(x, 0, 1), "1 3 2 0 4 0 5 0 2 6 1");
        int[] withReason = {3, 2, 2, 1, 1, 1, 1};
        for (int r = 0; r < withReason.length; r++) {
            due("ofPage(0, " + (10 + r) + ")", x.ofPage(0, 10 + r), withReason[r]);
        }
        due("links", x.ofPage(0, 3), 3);
        due("budget", x.ofPage(0, 2), 3);
        due("the least budget", x.ofPage(0, 5), 4);
        x.budget(0, 4);
        due("is enough", x.ofPage(0, 16), 0);
        for (int what : new int[] {-1, 6, 9, 17, Integer.MIN_VALUE, Integer.MAX_VALUE, Integer.MIN_VALUE + 10}) {
            due("what " + what, x.ofPage(0, what), NONE);
        }
        due("no such page", x.ofPage(4, 0), NONE);
        due("no such page", x.ofPage(-1, 0), NONE);
        due("no words", x.ofPage(1, 11), 0);
    }

    private static void link() {
        sentence("promise 20");
        GlossaryLinker x = with(list(), list("a:", "b:"), "q a a q b / a");
        due("the first", x.link(0, 0), 1);
        due("the second", x.link(0, 1), 4);
        due("the third", x.link(0, 2), 5);
        due("not so many", x.link(0, 3), NO);
        due("not so many", x.link(0, Integer.MAX_VALUE), NO);
        due("k -1", x.link(0, -1), NONE);
        due("least k", x.link(0, Integer.MIN_VALUE), NONE);
        due("no such page", x.link(4, 0), NONE);
        due("no such page", x.link(-1, 0), NONE);
        due("no words", x.link(1, 0), NO);
    }

    private static void without() {
        sentence("promise 21");
        GlossaryLinker x = with(list(), list("a:", "b:", "c:"), "a b a c / a");
        due("a later one of the sense", x.without(0, 0), 2);
        due("no other b", x.without(0, 1), NO);
        due("another section", x.without(0, 3), NO);
        due("no such linked word", x.without(0, 4), NONE);
        due("k -1", x.without(0, -1), NONE);
        due("no such page", x.without(4, 0), NONE);
        due("no such page", x.without(-1, 0), NONE);
        due("no words", x.without(1, 0), NONE);
        x.parameter(1, 1);
        due("reasons", row(x, 0, 1), "0 5 4 0 5");
        due("the gap", x.without(0, 0), 1);
        due("the gap behind the last", x.without(0, 1), 4);
        x.parameter(1, 0);
        x.budget(0, 3);
        due("reasons", row(x, 0, 1), "0 0 4 0 6");
        due("the budget", x.without(0, 2), 4);
        due("the budget", x.without(0, 1), 4);
        due("the section ahead of the budget", x.without(0, 0), 2);
        x.budget(0, 0);
        due("none is linked", x.without(0, 0), NONE);
        GlossaryLinker y = with(list(), list("a:", "b:"), "a b a");
        y.budget(0, 1);
        due("reasons", row(y, 0, 1), "0 6 4");
        due("from 6 to 0", y.without(0, 0), 1);
        GlossaryLinker z = with(list(), list("a:", "b:"), "a q a b");
        z.parameter(1, 2);
        due("reasons", row(z, 0, 1), "0 1 4 0");
        due("a link that then comes", z.without(0, 0), 2);
    }

    private static void again() {
        sentence("promise 22");
        GlossaryLinker x = with(list("s>"), list("a:", "b:", "c:@0", "d:x", "d:y"),
                "a b a d cc c / a x d bs b / q a b");
        due("as by the first way", x.again(0), x.ofPage(0, 3));
        due("of them", x.again(0), 7);
        x.parameter(1, 2);
        due("with a gap", x.again(0), 4);
        due("as by the first way", x.again(0), x.ofPage(0, 3));
        x.budget(0, 2);
        due("with a budget", x.again(0), 2);
        x.budget(0, 0);
        due("with none", x.again(0), 0);
        due("no words", x.again(3), 0);
        due("no such page", x.again(4), NONE);
        due("no such page", x.again(-1), NONE);
        GlossaryLinker y = with(list(), list("a:"), times("a", 20));
        due("the first of twenty", y.again(0), 1);
        due("the first word", with(list(), list("a:"), "a q").again(0), 1);
        due("the last word", with(list(), list("a:"), "q a").again(0), 1);
    }

    private static void back() {
        sentence("promise 23");
        GlossaryLinker x = new GlossaryLinker();
        due("none", x.back(), STATE);
        for (int k = 0; k < 10; k++) {
            x.parameter(1, k);
        }
        due("at most eight", x.count(3), 8);
        due("three", x.back(), 7);
        due("the gap of the ninth", x.count(5), 8);
        due("three", x.back(), 6);
        due("three", x.back(), 5);
        due("the gap then", x.count(5), 6);
        x.budget(0, 1);
        due("and a new one", x.count(3), 6);
        due("its undoing", x.back(), 5);
        due("the budget", x.ofPage(0, 2), 20);
        for (int k = 4; k >= 0; k--) {
            due("the others", x.back(), k);
        }
        due("the oldest that is known", x.count(5), 1);
        due("no more", x.back(), STATE);
        due("as it was", x.count(5), 1);
    }

    private static void backAll() {
        sentence("promise 23");
        for (String change : list("page", "sense", "rule", "removeSense", "removeRule", "parameter", "budget",
                "insert", "replace", "cut")) {
            GlossaryLinker x = with(list("s>"), list("a:x@1"), "a b / cats");
            String at = state(x);
            change(x, change);
            due("changes of " + change, x.count(3), 4);
            due("something different by " + change, state(x).equals(at) ? 1 : 0, 0);
            due("back() from " + change, x.back(), 3);
            due("the state behind " + change, state(x), at);
        }
        GlossaryLinker y = new GlossaryLinker();
        on(y, "tape");
        y.parameter(1, 0);
        y.parameter(1, 0);
        due("a change without a difference", y.back(), 1);
        due("the tape stays", y.count(2), 4);
        y.image();
        y.feed(1, 'x', 0, 0, 0, 0);
        y.cut(0, 0);
        y.parameter(1, 10);
        due("none of these is a change", y.count(3), 1);
    }

    private static void change(GlossaryLinker x, String change) {
        switch (change) {
            case "page":
                due(change, on(x, "z").page(0), 1);
                break;
            case "sense":
                due(change, on(x, "b:").sense(), 1);
                break;
            case "rule":
                due(change, on(x, "ts>").rule(), 1);
                break;
            case "removeSense":
                due(change, x.removeSense(0), 0);
                break;
            case "removeRule":
                due(change, x.removeRule(0), 0);
                break;
            case "parameter":
                due(change, x.parameter(0, 5), 3);
                break;
            case "budget":
                due(change, x.budget(0, 1), 20);
                break;
            case "insert":
                due(change, on(x, "q").insert(0, 1), 4);
                break;
            case "replace":
                due(change, on(x, "q").replace(0, 2), 3);
                break;
            default:
                due(change, x.cut(0, 2), 2);
        }
    }

    private static void image() {
        sentence("promise 24");
        GlossaryLinker x = with(list("s>"), list("a:", "b:"), "a b");
        due("the senses", x.image(), 2);
        due("no change", x.count(3), 4);
        x.removeSense(0);
        due("in place of an earlier one", x.image(), 1);
        on(x, "c:").sense();
        due("that one", x.undo(), 1);
        GlossaryLinker y = new GlossaryLinker();
        due("without senses", y.image(), 0);
        on(y, "a").page(0);
        due("is a snapshot too", y.undo(), 0);
        due("without words", y.ofPage(0, 0), 0);
    }

    private static void undo() {
        sentence("promise 25");
        GlossaryLinker x = with(list("s>"), list("a:x@1", "b:"), "a b / cats");
        due("no snapshot", x.undo(), STATE);
        due("as many changes", x.count(3), 4);
        x.parameter(0, 7);
        x.parameter(1, 1);
        x.budget(2, 3);
        String at = state(x);
        x.image();
        x.parameter(0, 1);
        x.parameter(1, 2);
        x.budget(2, 4);
        x.removeRule(0);
        on(x, "ts>").rule();
        x.removeSense(0);
        on(x, "other").page(0);
        on(x, "tape");
        due("the senses", x.undo(), 2);
        due("the state", state(x), at);
        due("no changes", x.count(3), 0);
        due("none to undo", x.back(), STATE);
        due("the tape stays", x.count(2), 4);
        x.cut(0, 0);
        due("a change", x.count(3), 1);
        due("the snapshot stays", x.undo(), 2);
        due("the state", state(x), at);
        due("no changes", x.count(3), 0);
    }

    private static void count() {
        sentence("promise 26");
        GlossaryLinker x = with(list("s>", "e>"), list("a:", "b:@0", "c:", "d:"), "a b / cs a");
        on(x, "q d cce").page(2);
        on(x, "xyz");
        x.parameter(0, 6);
        x.parameter(1, 0);
        int[] due = {4, 2, 3, 8, 6, 0, 7, 3, 6};
        for (int what = 0; what < due.length; what++) {
            due("count(" + what + ")", x.count(what), due[what]);
        }
        x.removeSense(0);
        due("the senses without links", x.count(8), 3);
        x.removeSense(0);
        due("the senses without links", x.count(8), 1);
        x.page(1);
        due("the bytes that were read", x.count(2), 0);
        on(x, "c").page(3);
        due("no senses without links", x.count(8), 0);
        for (int what : new int[] {-1, 9, Integer.MIN_VALUE, Integer.MAX_VALUE}) {
            due("count(" + what + ")", x.count(what), NONE);
        }
    }
}
