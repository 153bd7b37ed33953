/** The limits of pages, words, sections, rules, bases and senses: a test for each sentence that names one. */
public final class WordLimitTests extends Checks {
    private static final String[] SIX_RULES = list("s>a", "s>b", "s>c", "s>d", "s>e", "s>f");

    public static void main(String[] args) throws ReflectiveOperationException {
        runAll(WordLimitTests.class);
    }

    private static void fourPages() {
        sentence("There are 4 pages, numbered from 0");
        GlossaryLinker x = new GlossaryLinker();
        for (int p = 0; p < 4; p++) {
            due("page(" + p + ")", on(x, times("a", p + 1)).page(p), p + 1);
        }
        due("page(4)", on(x, "a").page(4), NONE);
        due("page(-1)", x.page(-1), NONE);
        for (int p = 0; p < 4; p++) {
            due("ofPage(" + p + ", 0)", x.ofPage(p, 0), p + 1);
        }
    }

    private static void noWordsAtFirst() {
        sentence("at first they have no words");
        GlossaryLinker x = new GlossaryLinker();
        for (int p = 0; p < 4; p++) {
            due("words", x.ofPage(p, 0), 0);
            due("sections", x.ofPage(p, 1), 0);
            due("the first word", x.word(p, 0, -1), NONE);
        }
        due("the words of all pages", x.count(6), 0);
    }

    private static void twentyWords() {
        sentence("A page has up to 20 words");
        GlossaryLinker x = new GlossaryLinker();
        due("twenty", on(x, times("a", 20)).page(0), 20);
        due("one more as a text", on(x, times("b", 21)).page(0), -140);
        due("one more by insert", on(x, "c").insert(0, 20), FULL);
        due("the words", page(x, 0), times("a", 20));
        due("the word that is still on the tape", x.page(1), 1);
        for (int p = 1; p < 4; p++) {
            due("twenty on each page", on(x, times("a", 20)).page(p), 20);
        }
        due("the words of all pages", x.count(6), 80);
    }

    private static void wordsFromZero() {
        sentence("words, numbered from 0");
        GlossaryLinker x = with(list(), list(), "abc de");
        due("word 0", text(x, 0, 0), "abc");
        due("word 1", text(x, 0, 1), "de");
        due("word 2", x.word(0, 2, -1), NONE);
        due("word -1", x.word(0, -1, -1), NONE);
        on(x, times("q", 19) + " z").page(0);
        due("word 19", x.word(0, 19, 0), 'z');
        due("word 20", x.word(0, 20, 0), NONE);
    }

    private static void fourSections() {
        sentence("in up to 4 sections, numbered from 0");
        GlossaryLinker x = with(list(), list(), "a / b b / c / d d");
        due("sections", x.ofPage(0, 1), 4);
        due("their numbers", row(x, 0, 0), "0 1 1 2 3 3");
        due("a fifth", on(x, "a / b / c / d / e").page(0), -114);
        due("the page then", page(x, 0), "a / b b / c / d d");
        due("behind the last word", on(x, "e").insert(0, 6), 7);
        due("sections then", row(x, 0, 0), "0 1 1 2 3 3 3");
    }

    private static void sectionsHaveWords() {
        sentence("each with at least one word");
        GlossaryLinker x = new GlossaryLinker();
        due("no first section", on(x, "/ a").page(0), -100);
        due("no first section", on(x, " / a").page(0), -100);
        due("no middle section", on(x, "a /  / b").page(0), -104);
        due("no middle section", on(x, "a / / b").page(0), -104);
        due("no last section", on(x, "a / ").page(0), -104);
        on(x, "a / b / c").page(0);
        x.cut(0, 1);
        due("none that became empty", x.ofPage(0, 1), 2);
        due("their numbers", row(x, 0, 0), "0 1");
    }

    private static void oneToTenLetters() {
        sentence("A word consists of 1 to 10 letters");
        GlossaryLinker x = new GlossaryLinker();
        due("one", on(x, "q").page(0), 1);
        due("its length", x.word(0, 0, -1), 1);
        due("ten", on(x, "qwertyuiop").page(0), 1);
        due("its length", x.word(0, 0, -1), 10);
        due("eleven", on(x, "qwertyuiopa").page(0), -110);
        due("none", on(x, " a").page(0), -100);
        due("none at the end", on(x, "a ").page(0), -102);
    }

    private static void lettersFromAToZ() {
        sentence("letters a to z");
        GlossaryLinker x = new GlossaryLinker();
        for (int c = 0; c < 128; c++) {
            boolean letter = c >= 'a' && c <= 'z';
            x.feed(1, c, 0, 0, 0, 0);
            due("a word of " + c, x.page(0), letter ? 1 : -100);
        }
        due("z is the last one that was read", x.word(0, 0, 0), 'z');
        for (int c = 'a'; c <= 'z'; c++) {
            on(x, "" + (char) c).page(1);
            due("the letter", x.word(1, 0, 0), c);
        }
    }

    private static void sixRules() {
        sentence("There are at most 6 rules");
        GlossaryLinker x = with(SIX_RULES, list(), "xxs");
        due("a seventh", on(x, "s>g").rule(), FULL);
        due("the rules", x.count(1), 6);
        due("what they make", bases(x, 0, 0), "xxs xxa xxb xxc xxd xxe xxf");
        due("room again", x.removeRule(5), 5);
        due("the sixth", x.rule(), 5);
        due("what they make", bases(x, 0, 0), "xxs xxa xxb xxc xxd xxe xxg");
    }

    private static void rulesInTheirOrder() {
        sentence("rules, numbered from 0 in the order in which they were added");
        GlossaryLinker x = new GlossaryLinker();
        for (int r = 0; r < 6; r++) {
            due("rule " + r, on(x, SIX_RULES[r]).rule(), r);
        }
        on(x, "xxs").page(0);
        due("the first one goes", x.removeRule(0), 5);
        due("the others", bases(x, 0, 0), "xxs xxb xxc xxd xxe xxf");
        due("the last one goes", x.removeRule(4), 4);
        due("the others", bases(x, 0, 0), "xxs xxb xxc xxd xxe");
        due("a new one stands behind them", on(x, "s>a").rule(), 4);
        due("the others", bases(x, 0, 0), "xxs xxb xxc xxd xxe xxa");
    }

    private static void endingOfOneToFourLetters() {
        sentence("an ending of 1 to 4 letters");
        GlossaryLinker x = new GlossaryLinker();
        due("none", on(x, ">a").rule(), -100);
        due("one", on(x, "d>").rule(), 0);
        due("four", on(x, "abcz>").rule(), 1);
        due("five", on(x, "abcde>").rule(), -104);
        on(x, "xyd xyabcz xybcz").page(0);
        due("one", bases(x, 0, 0), "xyd xy");
        due("four", bases(x, 0, 1), "xyabcz xy");
        due("three of the four", bases(x, 0, 2), "xybcz");
    }

    private static void replacementOfNoneToThreeLetters() {
        sentence("a replacement of 0 to 3 letters");
        GlossaryLinker x = new GlossaryLinker();
        due("none", on(x, "d>").rule(), 0);
        due("one", on(x, "d>e").rule(), 1);
        due("three", on(x, "d>efg").rule(), 2);
        due("four", on(x, "d>efgh").rule(), -105);
        due("the rules", x.count(1), 3);
        on(x, "xyd").page(0);
        due("what they make", bases(x, 0, 0), "xyd xy xye xyefg");
    }

    private static void wordEndsWithTheEnding() {
        sentence("A rule can be applied to a word that ends with its ending");
        GlossaryLinker x = with(list("abc>z"), list(), "xxabc xxabcx xxbc xxab abcabc xxabb abcxx bc");
        due("it ends so", bases(x, 0, 0), "xxabc xxz");
        due("a letter behind it", bases(x, 0, 1), "xxabcx");
        due("without the first letter", bases(x, 0, 2), "xxbc");
        due("without the last letter", bases(x, 0, 3), "xxab");
        due("the last one alone is replaced", bases(x, 0, 4), "abcabc abcz");
        due("with another last letter", bases(x, 0, 5), "xxabb");
        due("it begins so", bases(x, 0, 6), "abcxx");
        due("shorter than the ending", bases(x, 0, 7), "bc");
    }

    private static void twoLettersAheadOfTheEnding() {
        sentence("if at least 2 letters stand ahead of that");
        GlossaryLinker x = with(list("abc>z"), list(), "abc xabc xyabc");
        due("none", bases(x, 0, 0), "abc");
        due("one", bases(x, 0, 1), "xabc");
        due("two", bases(x, 0, 2), "xyabc xyz");
        GlossaryLinker y = with(list("s>"), list(), "s as aas ass aass");
        due("none", bases(y, 0, 0), "s");
        due("one", bases(y, 0, 1), "as");
        due("two", bases(y, 0, 2), "aas aa");
        due("one at the second rule", bases(y, 0, 3), "ass as");
        due("two at the second rule", bases(y, 0, 4), "aass aas aa");
    }

    private static void resultOfTenLetters() {
        sentence("if the result has at most 10 letters: the ending is replaced");
        GlossaryLinker x = with(list("s>abc"), list(), "aaaaaaas aaaaaaaas aaaaaaaaas");
        due("ten", bases(x, 0, 0), "aaaaaaas aaaaaaaabc");
        due("eleven", bases(x, 0, 1), "aaaaaaaas");
        due("twelve", bases(x, 0, 2), "aaaaaaaaas");
        GlossaryLinker y = with(list("s>t", "s>tt"), list(), "aaaaaaaaas");
        due("as long as before", bases(y, 0, 0), "aaaaaaaaas aaaaaaaaat");
        GlossaryLinker z = with(list("s>tt", "tt>"), list(), "aaaaaaaaas aaaaaaaas");
        due("eleven on the way", bases(z, 0, 0), "aaaaaaaaas");
        due("ten on the way", bases(z, 0, 1), "aaaaaaaas aaaaaaaatt aaaaaaaa");
    }

    private static void theWordItselfFirst() {
        sentence("The bases of a word are, in this order: the word itself");
        GlossaryLinker x = with(list(), list(), "xxs");
        due("without rules", bases(x, 0, 0), "xxs");
        on(x, "s>").rule();
        due("ahead of a rule's result", bases(x, 0, 0), "xxs xx");
    }

    private static void oneRuleAscending() {
        sentence("the results of one rule, in ascending order of the rules");
        GlossaryLinker x = with(list("ss>c", "s>b", "xss>a"), list(), "xxxss");
        due("not by the length or the letters", bases(x, 0, 0), "xxxss xxxc xxxsb xxa");
    }

    private static void twoRulesAscending() {
        sentence("in ascending order of the rule applied first, then of the rule applied second");
        GlossaryLinker x = with(list("a>xb", "a>xc", "b>d", "b>e", "c>f", "c>g"), list(), "zza");
        due("the first rule's order first", bases(x, 0, 0), "zza zzxb zzxc zzxd zzxe zzxf zzxg");
        GlossaryLinker y = with(list("c>d", "b>e", "a>xc", "a>xb"), list(), "zza");
        due("it is the order of the rule applied first", bases(y, 0, 0), "zza zzxc zzxb zzxd zzxe");
        GlossaryLinker z = with(list("b>a", "b>ca", "a>q"), list(), "xxb");
        due("one rule ahead of two", bases(z, 0, 0), "xxb xxa xxca xxq xxcq");
    }

    private static void sameRuleTwice() {
        sentence("one rule applied to the result of another or the same rule");
        GlossaryLinker x = with(list("s>"), list(), "xxss xxs");
        due("the same rule", bases(x, 0, 0), "xxss xxs xx");
        due("once, where it can't be applied again", bases(x, 0, 1), "xxs xx");
    }

    private static void noThirdRule() {
        sentence("the results of one rule applied to the result of another or the same rule");
        GlossaryLinker x = with(list("s>"), list("xx:"), "xxsss xxss");
        due("no third rule", bases(x, 0, 0), "xxsss xxss xxs");
        due("a head three rules away", x.told(0, 0, 1), 1);
        due("a head two rules away", x.told(0, 1, 5), 2);
    }

    private static void baseAgainCountsByItsFirstPlace() {
        sentence("A base that comes more than once counts by its first place.");
        GlossaryLinker x = with(list("s>a", "s>b", "a>b", "b>c", "s>a"), list("xxb:"), "xxs");
        due("one time each", bases(x, 0, 0), "xxs xxa xxb xxc");
        due("their number", x.told(0, 0, 7), 4);
        due("by one rule, not by two", x.told(0, 0, 5), 1);
        due("no fifth", x.base(0, 0, 4, -1), NO);
    }

    private static void wordAgainIsTheFirstBase() {
        sentence("A word that comes again by rules is the first base.");
        GlossaryLinker x = with(list("a>b", "b>a"), list("xxa:"), "xxa");
        due("by two rules", bases(x, 0, 0), "xxa xxb");
        due("its rules", x.told(0, 0, 5), 0);
        GlossaryLinker y = with(list("a>a"), list("xxa:"), "xxa");
        due("by one rule", bases(y, 0, 0), "xxa");
        due("its rules", y.told(0, 0, 5), 0);
        due("their number", y.told(0, 0, 7), 1);
    }

    private static void mostBases() {
        sentence("There are at most 6 rules; the different bases");
        GlossaryLinker x = with(list("s>as", "s>bs", "s>cs", "s>ds", "s>es", "s>fs"), list("zzffs:"), "zzs");
        due("1 and 6 and 36", x.told(0, 0, 7), 43);
        due("the last one", x.base(0, 0, 42, -1), 5);
        due("its letter", x.base(0, 0, 42, 3), 'f');
        due("behind the last one", x.base(0, 0, 43, -1), NO);
        due("the last one is the head", x.told(0, 0, 5), 2);
    }

    private static void eightSenses() {
        sentence("There are at most 8 senses");
        GlossaryLinker x = new GlossaryLinker();
        for (int s = 0; s < 8; s++) {
            due("sense " + s, on(x, "abcdefgh".substring(0, s + 1) + ":").sense(), s);
        }
        due("a ninth", on(x, "z:").sense(), FULL);
        due("the senses", x.count(0), 8);
        due("the last one", x.ofSense(7, 0), 8);
        due("no ninth", x.ofSense(8, 0), NONE);
        due("room again", x.removeSense(7), 7);
        due("the eighth", x.sense(), 7);
        due("its head", x.ofSense(7, 0), 1);
    }

    private static void sensesInTheirOrder() {
        sentence("senses, numbered from 0 in the order in which they were added");
        GlossaryLinker x = new GlossaryLinker();
        String heads = "hgfedcba";
        for (int s = 0; s < 8; s++) {
            due("sense " + s, on(x, heads.charAt(s) + ":").sense(), s);
        }
        on(x, "a b c d e f g h").page(0);
        due("by their order, not by their letters", row(x, 0, 2), "7 6 5 4 3 2 1 0");
        due("one of them goes", x.removeSense(3), 7);
        due("the later ones", row(x, 0, 2), "6 5 4 3 -5 2 1 0");
        due("a new one stands behind them", on(x, "e:").sense(), 7);
        due("its number", row(x, 0, 2), "6 5 4 3 7 2 1 0");
    }

    private static void headIsAWord() {
        sentence("each has a head, which is a word");
        GlossaryLinker x = new GlossaryLinker();
        due("none", on(x, ":a").sense(), -100);
        due("one letter", on(x, "a:").sense(), 0);
        due("ten letters", on(x, "abcdefghij:").sense(), 1);
        due("eleven letters", on(x, "abcdefghijk:").sense(), -110);
        due("its length", x.ofSense(0, 0), 1);
        due("its length", x.ofSense(1, 0), 10);
        on(x, "abcdefghij a abcdefghi").page(0);
        due("the mentions", row(x, 0, 2), "1 0 -5");
    }

    private static void noneToFourHints() {
        sentence("0 to 4 hints, which are words");
        GlossaryLinker x = new GlossaryLinker();
        due("none", on(x, "a:").sense(), 0);
        due("one", on(x, "a:b").sense(), 1);
        due("two", on(x, "a:b,c").sense(), 2);
        due("three", on(x, "a:b,c,d").sense(), 3);
        due("four", on(x, "a:b,c,d,e").sense(), 4);
        due("five", on(x, "a:b,c,d,e,f").sense(), -110);
        for (int s = 0; s < 5; s++) {
            due("hints of " + s, x.ofSense(s, 1), s);
        }
        due("a hint of ten letters", on(x, "a:abcdefghij").sense(), 5);
        due("a hint of eleven letters", on(x, "a:abcdefghijk").sense(), -112);
        due("a hint without letters", on(x, "a:b,,c").sense(), -104);
    }

    private static void possiblyAnOwnPage() {
        sentence("and possibly an own page");
        GlossaryLinker x = new GlossaryLinker();
        due("none", on(x, "a:").sense(), 0);
        for (int p = 0; p < 4; p++) {
            due("page " + p, on(x, "a:@" + p).sense(), p + 1);
        }
        due("behind hints", on(x, "a:b,c@3").sense(), 5);
        due("no such page", on(x, "a:@4").sense(), -103);
        int[] own = {NO, 0, 1, 2, 3, 3};
        for (int s = 0; s < own.length; s++) {
            due("own page of " + s, x.ofSense(s, 2), own[s]);
        }
    }

    private static void severalSensesOfOneHead() {
        sentence("Several senses can have the same head.");
        GlossaryLinker x = new GlossaryLinker();
        for (int s = 0; s < 8; s++) {
            due("sense " + s, on(x, "a:" + "bcdefghi".charAt(s)).sense(), s);
        }
        on(x, "i a / b a").page(0);
        due("the last of them", x.told(0, 1, 2), 7);
        due("the first of them", x.told(0, 3, 2), 0);
    }
}
