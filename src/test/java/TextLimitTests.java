/** Texts, their error positions and causes: a test for each sentence that names a limit. */
public final class TextLimitTests extends Checks {
    private static final int FORM = 1, LONG = 2, MANY = 3;
    private static final String TEN = "abcdefghij", ELEVEN = "abcdefghijk";

    public static void main(String[] args) throws ReflectiveOperationException {
        runAll(TextLimitTests.class);
    }

    /** A kind of text, by the call that reads it; there is room for one more of each. */
    private enum Kind {
        PAGE, SENSE, RULE, INSERTED, REPLACING;

        int read(GlossaryLinker x) {
            switch (this) {
                case PAGE:
                    return x.page(1);
                case SENSE:
                    return x.sense();
                case RULE:
                    return x.rule();
                case INSERTED:
                    return x.insert(0, 1);
                default:
                    return x.replace(0, 1);
            }
        }
    }

    private static GlossaryLinker object() {
        return with(list("s>"), list("cat:"), "cats x");
    }

    private static void wrong(Kind kind, String text, int place, int cause) {
        GlossaryLinker x = object();
        String state = state(x);
        String call = kind + " of <" + text + ">";
        due(call, kind.read(on(x, text)), -100 - place);
        due("the cause of " + call, x.cause(), cause);
        due("the tape after " + call, x.count(2), 0);
        due("the state after " + call, state(x), state);
        due("the changes after " + call, x.count(3), 3);
    }

    private static void right(Kind kind, String text, int answer) {
        GlossaryLinker x = object();
        String call = kind + " of <" + text + ">";
        due(call, kind.read(on(x, text)), answer);
        due("the cause of " + call, x.cause(), NO);
        due("the tape after " + call, x.count(2), 0);
        due("the changes after " + call, x.count(3), 4);
    }

    private static void formOfAPage() {
        sentence("page = section { \" / \" section }, section = word { \" \" word }");
        right(Kind.PAGE, "a", 1);
        right(Kind.PAGE, "a b", 2);
        right(Kind.PAGE, "a / b", 2);
        right(Kind.PAGE, "a b / c d / e f / g h", 8);
        wrong(Kind.PAGE, "a/b", 1, FORM);
        wrong(Kind.PAGE, "a /b", 3, FORM);
        wrong(Kind.PAGE, "a/ b", 1, FORM);
        wrong(Kind.PAGE, "a  / b", 2, FORM);
        wrong(Kind.PAGE, "a /  b", 4, FORM);
        wrong(Kind.PAGE, "a // b", 3, FORM);
        wrong(Kind.PAGE, " a", 0, FORM);
        wrong(Kind.PAGE, "/ a", 0, FORM);
        wrong(Kind.PAGE, "a,b", 1, FORM);
    }

    private static void formOfASense() {
        sentence("sense = word \":\" [ word { \",\" word } ] [ \"@\" digit ]");
        right(Kind.SENSE, "a:", 1);
        right(Kind.SENSE, "a:b", 1);
        right(Kind.SENSE, "a:b,c", 1);
        right(Kind.SENSE, "a:@2", 1);
        right(Kind.SENSE, "a:b@2", 1);
        wrong(Kind.SENSE, "a::", 2, FORM);
        wrong(Kind.SENSE, "a:,b", 2, FORM);
        wrong(Kind.SENSE, "a:b,@2", 4, FORM);
        wrong(Kind.SENSE, "a:b, c", 4, FORM);
        wrong(Kind.SENSE, "a :b", 1, FORM);
        wrong(Kind.SENSE, "a@2", 1, FORM);
        wrong(Kind.SENSE, "a:2", 2, FORM);
        wrong(Kind.SENSE, "a:@2,b", 4, FORM);
        wrong(Kind.SENSE, "a:@2@2", 4, FORM);
        wrong(Kind.SENSE, "a:@22", 4, FORM);
        wrong(Kind.SENSE, "a:@b", 3, FORM);
    }

    private static void formOfARule() {
        sentence("rule = letter { letter } \">\" { letter }");
        right(Kind.RULE, "a>", 1);
        right(Kind.RULE, "abcd>efg", 1);
        wrong(Kind.RULE, ">", 0, FORM);
        wrong(Kind.RULE, ">a", 0, FORM);
        wrong(Kind.RULE, "a>>", 2, FORM);
        wrong(Kind.RULE, "a>b>", 3, FORM);
        wrong(Kind.RULE, "a > b", 1, FORM);
        wrong(Kind.RULE, "a:b", 1, FORM);
        wrong(Kind.RULE, "a>b ", 3, FORM);
    }

    private static void oneWordForInsertAndReplace() {
        sentence("For insert and replace, the tape is one word.");
        for (Kind kind : new Kind[] {Kind.INSERTED, Kind.REPLACING}) {
            int words = kind == Kind.INSERTED ? 3 : 2;
            right(kind, "a", words);
            right(kind, TEN, words);
            wrong(kind, "", 0, FORM);
            wrong(kind, " ", 0, FORM);
            wrong(kind, "a ", 1, FORM);
            wrong(kind, "a b", 1, FORM);
            wrong(kind, "ab / c", 2, FORM);
            wrong(kind, "ab:", 2, FORM);
            wrong(kind, "aB", 1, FORM);
        }
    }

    private static void asManyLettersAsFollow() {
        sentence("A word is as many letters as follow");
        GlossaryLinker x = with(list(), list(), "abc abcd");
        due("all letters to the blank", text(x, 0, 0), "abc");
        due("all letters to the end", text(x, 0, 1), "abcd");
        on(x, "x" + TEN.substring(1)).insert(0, 0);
        due("ten letters", text(x, 0, 0), "xbcdefghij");
    }

    private static void eleventhLetterOfAWordOfAPage() {
        sentence("its eleventh letter is wrong");
        right(Kind.PAGE, TEN + " " + TEN + " / " + TEN, 3);
        wrong(Kind.PAGE, ELEVEN, 10, LONG);
        wrong(Kind.PAGE, ELEVEN + "lmnop", 10, LONG);
        wrong(Kind.PAGE, ELEVEN + " b", 10, LONG);
        wrong(Kind.PAGE, ELEVEN + "?", 10, LONG);
        wrong(Kind.PAGE, "a " + ELEVEN, 12, LONG);
        wrong(Kind.PAGE, "a / " + ELEVEN + " ??", 14, LONG);
        wrong(Kind.PAGE, times("a", 19) + " " + ELEVEN, 48, LONG);
        wrong(Kind.PAGE, TEN + "?", 10, FORM);
    }

    private static void eleventhLetterOfAHead() {
        sentence("its eleventh letter is wrong");
        right(Kind.SENSE, TEN + ":", 1);
        wrong(Kind.SENSE, ELEVEN + ":", 10, LONG);
        wrong(Kind.SENSE, ELEVEN, 10, LONG);
    }

    private static void eleventhLetterOfAHint() {
        sentence("its eleventh letter is wrong");
        right(Kind.SENSE, "a:" + TEN + "," + TEN + "," + TEN + "," + TEN + "@1", 1);
        wrong(Kind.SENSE, "a:" + ELEVEN, 12, LONG);
        wrong(Kind.SENSE, "a:b,c,d," + ELEVEN, 18, LONG);
        wrong(Kind.SENSE, "a:" + ELEVEN + "@9", 12, LONG);
    }

    private static void eleventhLetterOfTheOneWord() {
        sentence("its eleventh letter is wrong");
        for (Kind kind : new Kind[] {Kind.INSERTED, Kind.REPLACING}) {
            wrong(kind, ELEVEN, 10, LONG);
            wrong(kind, ELEVEN + "l m", 10, LONG);
        }
    }

    private static void twentyFirstWord() {
        sentence("at their first byte, a 21st word of a page");
        String twenty = times("a", 20);
        right(Kind.PAGE, twenty, 20);
        wrong(Kind.PAGE, twenty + " b", 40, MANY);
        wrong(Kind.PAGE, twenty + " b c d", 40, MANY);
        wrong(Kind.PAGE, twenty + " b?", 40, MANY);
        wrong(Kind.PAGE, twenty + " / b", 42, MANY);
        wrong(Kind.PAGE, "aa / " + times("a", 19) + " b", 43, MANY);
        wrong(Kind.PAGE, "a / a / a / " + times("a", 17) + " b", 46, MANY);
    }

    private static void longTwentyFirstWord() {
        sentence("Of a word that is one too many the first byte is told, however long it is.");
        String twenty = times("a", 20);
        wrong(Kind.PAGE, twenty + " " + TEN, 40, MANY);
        wrong(Kind.PAGE, twenty + " " + ELEVEN, 40, MANY);
        wrong(Kind.PAGE, twenty + " / " + ELEVEN + ELEVEN, 42, MANY);
    }

    private static void longFifthHint() {
        sentence("Of a word that is one too many the first byte is told, however long it is.");
        wrong(Kind.SENSE, "a:b,c,d,e," + TEN, 10, MANY);
        wrong(Kind.SENSE, "a:b,c,d,e," + ELEVEN, 10, MANY);
        wrong(Kind.SENSE, "a:b,c,d,e," + ELEVEN + ELEVEN + "@0", 10, MANY);
    }

    private static void noWordBehindTwenty() {
        sentence("the index of its first byte with which no such text can continue, or its length if it ends too early");
        String twenty = times("a", 20);
        wrong(Kind.PAGE, twenty + " ", 40, FORM);
        wrong(Kind.PAGE, twenty + " /", 41, FORM);
        wrong(Kind.PAGE, twenty + " / ", 42, FORM);
        wrong(Kind.PAGE, twenty + " ?", 40, FORM);
        wrong(Kind.PAGE, twenty + " /b", 41, FORM);
        wrong(Kind.PAGE, twenty + "?", 39, FORM);
    }

    private static void fifthHint() {
        sentence("at their first byte, a fifth hint");
        right(Kind.SENSE, "a:b,c,d,e", 1);
        right(Kind.SENSE, "a:b,c,d,e@0", 1);
        right(Kind.SENSE, "a:b,b,b,b", 1);
        wrong(Kind.SENSE, "a:b,c,d,e,f", 10, MANY);
        wrong(Kind.SENSE, "a:b,b,b,b,b", 10, MANY);
        wrong(Kind.SENSE, "ab:cd,ef,gh,ij,kl,mn", 15, MANY);
        wrong(Kind.SENSE, "a:b,c,d,e,f@7", 10, MANY);
        wrong(Kind.SENSE, "a:b,c,d,e,", 10, FORM);
        wrong(Kind.SENSE, "a:b,c,d,e,@0", 10, FORM);
    }

    private static void fifthSection() {
        sentence("a fifth section is wrong at the \"/\" ahead of it");
        right(Kind.PAGE, "a / b / c / d", 4);
        wrong(Kind.PAGE, "a / b / c / d / e", 14, MANY);
        wrong(Kind.PAGE, "aa b / cc / d / e f / g / h", 20, MANY);
        wrong(Kind.PAGE, "a / b / c / " + times("d", 17) + " / e", 46, MANY);
    }

    private static void slashOfAFifthSection() {
        sentence("The \"/\" behind the blank is the place of a fifth section.");
        wrong(Kind.PAGE, "a / b / c / d /", 14, MANY);
        wrong(Kind.PAGE, "a / b / c / d /e", 14, MANY);
        wrong(Kind.PAGE, "a / b / c / d //", 14, MANY);
        wrong(Kind.PAGE, "a / b / c / d ", 14, FORM);
        wrong(Kind.PAGE, "a / b / c / d/ e", 13, FORM);
        wrong(Kind.PAGE, "a / b / c / d  / e", 14, FORM);
        right(Kind.PAGE, "a / b / c / d e", 5);
    }

    private static void fifthLetterOfAnEnding() {
        sentence("a fifth letter of an ending at itself");
        right(Kind.RULE, "abcd>", 1);
        wrong(Kind.RULE, "abcde>", 4, LONG);
        wrong(Kind.RULE, "abcdefgh", 4, LONG);
        wrong(Kind.RULE, "abcde?", 4, LONG);
        wrong(Kind.RULE, "abcd?", 4, FORM);
    }

    private static void fourthLetterOfAReplacement() {
        sentence("a fourth one of a replacement at itself");
        right(Kind.RULE, "abcd>efg", 1);
        wrong(Kind.RULE, "a>bcde", 5, LONG);
        wrong(Kind.RULE, "abcd>efgh", 8, LONG);
        wrong(Kind.RULE, "a>bcdef?", 5, LONG);
        wrong(Kind.RULE, "a>bcd?", 5, FORM);
    }

    private static void digitOfASense() {
        sentence("The digit of a sense is its own page, 0 to 3.");
        for (int page = 0; page < 10; page++) {
            if (page <= 3) {
                right(Kind.SENSE, "a:@" + page, 1);
            } else {
                wrong(Kind.SENSE, "a:@" + page, 3, FORM);
            }
        }
        wrong(Kind.SENSE, "a:@/", 3, FORM);
        wrong(Kind.SENSE, "a:@:", 3, FORM);
        wrong(Kind.SENSE, "a:b@4", 4, FORM);
        wrong(Kind.SENSE, "a:b@@", 4, FORM);
        wrong(Kind.SENSE, "a:b@", 4, FORM);
    }

    private static void everyByteOfARightText() {
        sentence("The error position of a text is the index of its first byte with which no such text can continue");
        everyByte(Kind.PAGE, "ab c / d / ef");
        everyByte(Kind.SENSE, "ab:c,def@3");
        everyByte(Kind.RULE, "abcd>ef");
        everyByte(Kind.INSERTED, TEN);
        everyByte(Kind.REPLACING, TEN);
    }

    private static void everyByte(Kind kind, String text) {
        for (int at = 0; at <= text.length(); at++) {
            wrong(kind, text.substring(0, at) + "?" + text.substring(at), at, FORM);
            wrong(kind, text.substring(0, at) + (char) (at % 2 == 0 ? 0 : 127), at, FORM);
        }
    }

    private static void noSignsButLetters() {
        sentence("A word consists of 1 to 10 letters a to z.");
        for (int sign = 0; sign < 128; sign++) {
            char c = (char) sign;
            if (c < 'a' || c > 'z') {
                due("in a word of a page " + sign, on(new GlossaryLinker(), "a / " + c).page(0), -104);
                due("in a head " + sign, on(new GlossaryLinker(), c + "a:").sense(), -100);
                due("in a hint " + sign, on(new GlossaryLinker(), "a:b," + c).sense(), -104);
                due("in an ending " + sign, on(new GlossaryLinker(), c + "a>b").rule(), -100);
                due("in a replacement " + sign, on(new GlossaryLinker(), "a>b" + c).rule(), -103);
                due("in an inserted word " + sign, on(new GlossaryLinker(), "ab" + c).insert(0, 0), -102);
            }
        }
    }

    private static void everyBeginningOfAPage() {
        sentence("or its length if it ends too early");
        String text = "ab / c d";
        boolean[] whole = {true, true, true, false, false, false, true, false, true};
        for (int length = 0; length < whole.length; length++) {
            String beginning = text.substring(0, length);
            if (whole[length]) {
                right(Kind.PAGE, beginning, length == 0 ? 0 : length < 6 ? 1 : length < 8 ? 2 : 3);
            } else {
                wrong(Kind.PAGE, beginning, length, FORM);
            }
        }
    }

    private static void everyBeginningOfASense() {
        sentence("or its length if it ends too early");
        String text = "a:b,c@1";
        boolean[] whole = {false, false, true, true, false, true, false, true};
        for (int length = 0; length < whole.length; length++) {
            if (whole[length]) {
                right(Kind.SENSE, text.substring(0, length), 1);
            } else {
                wrong(Kind.SENSE, text.substring(0, length), length, FORM);
            }
        }
    }

    private static void everyBeginningOfARule() {
        sentence("or its length if it ends too early");
        wrong(Kind.RULE, "", 0, FORM);
        wrong(Kind.RULE, "a", 1, FORM);
        wrong(Kind.RULE, "abcd", 4, FORM);
        right(Kind.RULE, "abcd>", 1);
        right(Kind.RULE, "abcd>e", 1);
    }

    private static void emptyTape() {
        sentence("An empty tape makes a page without words.");
        right(Kind.PAGE, "", 0);
        wrong(Kind.PAGE, " ", 0, FORM);
        wrong(Kind.SENSE, "", 0, FORM);
        wrong(Kind.RULE, "", 0, FORM);
        wrong(Kind.INSERTED, "", 0, FORM);
        wrong(Kind.REPLACING, "", 0, FORM);
    }

    private static void wholeTape() {
        sentence("FULL if the tape would be longer than 80 bytes; its error position");
        String seventySeven = (TEN + " ").repeat(7);
        right(Kind.PAGE, seventySeven + "abc", 8);
        right(Kind.PAGE, "abc " + (TEN + " ").repeat(6) + TEN, 8);
        wrong(Kind.PAGE, seventySeven + "ab ", 80, FORM);
        wrong(Kind.PAGE, seventySeven + "ab?", 79, FORM);
        wrong(Kind.PAGE, "ab " + (TEN + " ").repeat(6) + ELEVEN, 79, LONG);
        wrong(Kind.RULE, "a>" + "b".repeat(78), 5, LONG);
        wrong(Kind.INSERTED, "a".repeat(80), 10, LONG);
        wrong(Kind.PAGE, " ".repeat(80), 0, FORM);
    }

    private static void firstFaultCounts() {
        sentence("the index of its first byte with which no such text can continue");
        wrong(Kind.PAGE, "a? " + ELEVEN, 1, FORM);
        wrong(Kind.PAGE, ELEVEN + "? " + times("a", 25), 10, LONG);
        wrong(Kind.PAGE, times("a", 21) + "? " + ELEVEN, 40, MANY);
        wrong(Kind.PAGE, "a / b / c / d / " + ELEVEN, 14, MANY);
        wrong(Kind.SENSE, ELEVEN + ":b,c,d,e,f", 10, LONG);
        wrong(Kind.SENSE, "a:b,c,d,e,f@9", 10, MANY);
        wrong(Kind.RULE, "abcde>fghi", 4, LONG);
    }

    private static void causeOfTheLatestWrongText() {
        sentence("cause: 1 the form, 2 a word or an ending or a replacement that is too long, 3 too many words, sections or hints");
        GlossaryLinker x = object();
        due("none", x.cause(), NO);
        due("too many words", on(x, times("a", 21)).page(0), -140);
        due("its cause", x.cause(), MANY);
        due("a word that is too long", on(x, ELEVEN).page(0), -110);
        due("its cause", x.cause(), LONG);
        due("too many sections", on(x, "a / b / c / d / e").page(0), -114);
        due("its cause", x.cause(), MANY);
        due("an ending that is too long", on(x, "abcde>").rule(), -104);
        due("its cause", x.cause(), LONG);
        due("too many hints", on(x, "a:b,c,d,e,f").sense(), -110);
        due("its cause", x.cause(), MANY);
        due("a replacement that is too long", on(x, "a>bcde").rule(), -105);
        due("its cause", x.cause(), LONG);
        due("the form", on(x, "?").replace(0, 0), -100);
        due("its cause", x.cause(), FORM);
    }

    private static void rightTextLeavesTheCause() {
        sentence("Returns the cause of the latest wrong text.");
        GlossaryLinker x = object();
        on(x, ELEVEN).page(0);
        due("a right page", on(x, "a").page(0), 1);
        due("a right sense", on(x, "a:").sense(), 1);
        due("a right rule", on(x, "a>").rule(), 1);
        due("a right word", on(x, "b").insert(0, 0), 2);
        due("a right word", on(x, "c").replace(0, 0), 2);
        due("no such page", on(x, "?").page(4), NONE);
        due("no such word", x.insert(0, 3), NONE);
        due("the cause", x.cause(), LONG);
    }
}
