/** Mentions and links: a test for each sentence that names a limit of the window, the gap, the budget, a score. */
public final class LinkLimitTests extends Checks {
    public static void main(String[] args) throws ReflectiveOperationException {
        runAll(LinkLimitTests.class);
    }

    /** Two words with n others between. */
    private static String apart(String first, int n, String last) {
        return first + " x".repeat(n) + " " + last;
    }

    private static void mentionByABase() {
        sentence("A word of a page is a mention if one of its bases is the head of a sense");
        GlossaryLinker x = with(list("s>"), list("cat:"), "cat cats catss catsss ca at catx xcat");
        due("rules to the head", row(x, 0, 5), "0 1 2 -5 -5 -5 -5 -5");
        due("mentions", x.ofPage(0, 4), 3);
        due("the head's own bases do not count", with(list("s>"), list("cats:"), "cat").told(0, 0, 1), 1);
    }

    private static void headIsTheFirstSuchBase() {
        sentence("its head is the first such base");
        GlossaryLinker x = with(list("s>", "s>x"), list("catx:", "cat:", "cats:"), "cats / catss / catxs");
        due("the word itself", x.told(0, 0, 2), 2);
        due("the lower rule's result", x.told(0, 1, 2), 2);
        due("rules", row(x, 0, 5), "0 1 1");
        x.removeSense(2);
        due("one rule, the lower one", x.told(0, 0, 2), 1);
        due("two rules, the lower one first", x.told(0, 1, 2), 1);
        x.removeRule(0);
        due("the other rule", x.told(0, 0, 2), 0);
    }

    private static void hintCountsAsOftenAsItStands() {
        sentence("the number of its hints, each one counted as often as it stands among them");
        GlossaryLinker x = with(list(), list("bank:loan,loan,loan,loan"), "loan bank");
        due("four times", x.told(0, 1, 4), 4);
        GlossaryLinker y = with(list(), list("bank:river,money", "bank:loan,cash,loan,loan"), "river money loan bank");
        due("three against two", y.told(0, 3, 3), 1);
        due("three", y.told(0, 3, 4), 3);
    }

    private static void hintAheadTwiceCountsOnce() {
        sentence("for which one of the words ahead of the mention has this hint among its bases");
        GlossaryLinker x = with(list(), list("bank:loan", "bank:river,money"), "loan loan loan bank");
        due("three such words", x.told(0, 3, 4), 1);
        on(x, "river money loan bank").page(0);
        due("two hints by one word each", x.told(0, 3, 4), 2);
        GlossaryLinker y = with(list("s>"), list("bank:loans,loan"), "loans bank / loan bank");
        due("two hints by one word", y.told(0, 1, 4), 2);
        due("one hint by one word", y.told(0, 3, 4), 1);
    }

    private static void hintAmongTheBases() {
        sentence("has this hint among its bases");
        GlossaryLinker x = with(list("s>"), list("bank:loan"), "loan bank / loans bank / loanss bank / loansss bank");
        due("by no rule, one, two, three", row(x, 0, 4), "-5 1 -5 1 -5 1 -5 0");
        GlossaryLinker y = with(list("s>"), list("bank:loans"), "loan bank");
        due("the hint's own bases do not count", y.told(0, 1, 4), 0);
    }

    private static void wordsAheadOfTheSameSection() {
        sentence("the words ahead are those of the same section");
        GlossaryLinker x = with(list(), list("bank:loan"), "loan / bank loan / x bank");
        x.parameter(0, 8);
        due("the first of its section", x.told(0, 1, 4), 0);
        due("the second of its section", x.told(0, 4, 4), 0);
        on(x, "loan / loan bank").page(0);
        due("the same word in both sections", x.told(0, 2, 4), 1);
    }

    private static void asManyAsTheWindowSays() {
        sentence("up to as many as the window says, directly ahead of the mention");
        GlossaryLinker x = with(list(), list("bank:loan"), "");
        for (int window = 0; window <= 8; window++) {
            x.parameter(0, window);
            on(x, apart("loan", window, "bank")).page(1);
            due("one too far for the window " + window, x.told(1, window + 1, 4), 0);
            if (window > 0) {
                on(x, apart("loan", window - 1, "bank")).page(1);
                due("the farthest of the window " + window, x.told(1, window, 4), 1);
            }
        }
    }

    private static void fewerWordsThanTheWindow() {
        sentence("up to as many as the window says");
        GlossaryLinker x = with(list(), list("bank:loan"), "bank / loan bank");
        x.parameter(0, 8);
        due("no word ahead", x.told(0, 0, 4), 0);
        due("one word ahead", x.told(0, 2, 4), 1);
    }

    private static void noWordsButThoseAhead() {
        sentence("one of the words ahead of the mention");
        GlossaryLinker x = with(list(), list("bank:bank,loan"), "bank loan / bank bank");
        due("not itself and none behind it", x.told(0, 0, 4), 0);
        due("not itself", x.told(0, 2, 4), 0);
        due("another one ahead", x.told(0, 3, 4), 1);
    }

    private static void greatestScore() {
        sentence("the meant sense of a mention is, of the senses with its head, the one with the greatest score");
        GlossaryLinker x = with(list(), list("bank:a", "bank:a,b,c", "bank:a,b", "cat:a,b,c,a"), "a b c bank");
        due("three", x.told(0, 3, 3), 1);
        due("its score", x.told(0, 3, 4), 3);
        x.removeSense(1);
        due("two", x.told(0, 3, 3), 1);
        due("its score", x.told(0, 3, 4), 2);
    }

    private static void lowestOfSeveral() {
        sentence("of several the one with the lowest number");
        GlossaryLinker x = with(list(), list("bank:z", "bank:b", "bank:a", "bank:a"), "a b bank");
        due("three with the score 1", x.told(0, 2, 3), 1);
        x.removeSense(1);
        due("two with the score 1", x.told(0, 2, 3), 1);
        x.removeSense(0);
        due("from the first one on", x.told(0, 2, 3), 0);
    }

    private static void severalAndTheGreatestScoreIsZero() {
        sentence("if several senses have this head, and the greatest score is 0, no sense is meant");
        GlossaryLinker x = with(list(), list("bank:z", "cat:", "bank:"), "a bank / z bank");
        due("reasons", row(x, 0, 1), "1 2 1 0");
        due("meant senses", row(x, 0, 3), "-5 -5 -5 0");
        due("scores", row(x, 0, 4), "-5 -5 -5 1");
        due("rules to the head", row(x, 0, 5), "-5 0 -5 0");
        due("they are mentions", x.ofPage(0, 4), 2);
        due("words that mean it", x.ofSense(0, 4), 1);
        due("words that mean the other", x.ofSense(2, 4), 0);
    }

    private static void onlySenseWithScoreZero() {
        sentence("but if several senses have this head, and the greatest score is 0");
        GlossaryLinker x = with(list(), list("bank:z", "cat:", "bank:"), "a bank");
        x.removeSense(2);
        due("one sense needs no score", x.told(0, 1, 1), 0);
        due("its score", x.told(0, 1, 4), 0);
        due("the sense", x.told(0, 1, 2), 0);
    }

    private static void reasonOfALinkedWord() {
        sentence("The reason of a linked word is 0.");
        GlossaryLinker x = twentyLinks();
        due("words with it", x.ofPage(0, 10), 20);
        due("linked words", x.ofPage(0, 3), 20);
        due("the last one", x.told(0, 19, 1), 0);
    }

    private static void noMentionIsToldFirst() {
        sentence("of which the first one is told: 1 it is no mention");
        GlossaryLinker x = with(list(), list("cat:"), "cat x");
        x.parameter(1, 9);
        x.budget(0, 1);
        due("ahead of the gap and the budget", x.told(0, 1, 1), 1);
    }

    private static void noSenseIsToldSecond() {
        sentence("of which the first one is told: 2 no sense is meant");
        GlossaryLinker x = with(list(), list("cat:", "bank:a", "bank:b@0"), "cat bank");
        x.parameter(1, 9);
        x.budget(0, 1);
        due("ahead of the gap and the budget", x.told(0, 1, 1), 2);
    }

    private static void ownPageIsToldThird() {
        sentence("of which the first one is told: 3 the page is the own page of the meant sense");
        GlossaryLinker x = with(list(), list("cat:", "dog:@0"), "cat dog dog");
        x.parameter(1, 9);
        x.budget(0, 1);
        due("ahead of the gap and the budget", row(x, 0, 1), "0 3 3");
        on(x, "dog dog").page(1);
        due("another page", row(x, 1, 1), "0 4");
        GlossaryLinker y = with(list(), list("dog:@3", "dog:x@0"), "x dog");
        due("of the meant sense, not of another", y.told(0, 1, 1), 3);
        on(y, "x dog").page(3);
        due("of the meant sense, not of another", y.told(3, 1, 1), 0);
    }

    private static void linkedAheadIsToldFourth() {
        sentence("of which the first one is told: 4 a word ahead of it in the same section is linked to this sense");
        GlossaryLinker x = with(list(), list("cat:", "dog:"), "cat cat");
        x.parameter(1, 9);
        x.budget(0, 1);
        due("ahead of the gap and the budget", row(x, 0, 1), "0 4");
    }

    private static void linkedAheadInTheSameSection() {
        sentence("4 a word ahead of it in the same section is linked to this sense");
        GlossaryLinker x = with(list("s>"), list("cat:", "dog:"), "cat dog cats cat / cat dog cat / x cats");
        due("reasons", row(x, 0, 1), "0 0 4 4 0 0 4 1 0");
        GlossaryLinker y = with(list(), list("cat:", "dog:"), "dog cat x cat");
        y.parameter(1, 1);
        due("a word ahead that is not linked", row(y, 0, 1), "0 5 1 0");
        GlossaryLinker z = with(list(), list("bank:a", "bank:b"), "a bank b b b bank");
        due("linked to another sense of the head", row(z, 0, 1), "1 0 1 1 1 0");
    }

    private static void gapIsToldFifth() {
        sentence("of which the first one is told: 5 fewer words than the gap says stand between");
        GlossaryLinker x = with(list(), list("cat:", "dog:"), "cat dog");
        x.parameter(1, 1);
        x.budget(0, 1);
        due("ahead of the budget", row(x, 0, 1), "0 5");
    }

    private static void fewerWordsThanTheGapSays() {
        sentence("5 fewer words than the gap says stand between it and the latest word of the page that is linked");
        GlossaryLinker x = with(list(), list("cat:", "dog:"), "");
        for (int gap = 0; gap <= 9; gap++) {
            x.parameter(1, gap);
            on(x, apart("cat", gap, "dog")).page(0);
            due("as many as the gap " + gap, x.told(0, gap + 1, 1), 0);
            if (gap > 0) {
                on(x, apart("cat", gap - 1, "dog")).page(0);
                due("one fewer than the gap " + gap, x.told(0, gap, 1), 5);
            }
        }
    }

    private static void gapInWhateverSection() {
        sentence("the latest word of the page that is linked, in whatever section");
        GlossaryLinker x = with(list(), list("cat:", "dog:"), "cat x / cat / x dog / x");
        x.parameter(1, 2);
        due("over the sections", row(x, 0, 1), "0 1 5 1 0 1");
        x.parameter(1, 3);
        due("one more", row(x, 0, 1), "0 1 5 1 0 1");
        x.parameter(1, 4);
        due("and one more", row(x, 0, 1), "0 1 5 1 5 1");
    }

    private static void gapToTheLatestLinkedWord() {
        sentence("the latest word of the page that is linked");
        GlossaryLinker x = with(list(), list("cat:", "dog:", "ox:"), "cat x x dog x ox");
        x.parameter(1, 2);
        due("the latest one, not the first one", row(x, 0, 1), "0 1 1 0 1 5");
        on(x, "cat dog x ox").page(0);
        due("not one that is not linked", row(x, 0, 1), "0 5 1 0");
    }

    private static void gapWithoutALinkedWord() {
        sentence("the latest word of the page that is linked");
        GlossaryLinker x = with(list(), list("cat:@0", "dog:"), "cat dog");
        x.parameter(1, 9);
        due("none ahead", row(x, 0, 1), "3 0");
        on(x, "dog").page(1);
        due("none of another page", row(x, 1, 1), "0");
    }

    private static void asManyAsTheBudgetSays() {
        sentence("6 as many words of the page as its budget says are linked already");
        GlossaryLinker x = twentyLinks();
        for (int budget = 0; budget <= 20; budget++) {
            x.budget(0, budget);
            due("linked with the budget " + budget, x.ofPage(0, 3), budget);
            due("not linked with the budget " + budget, x.ofPage(0, 16), 20 - budget);
            due("the last one with the budget " + budget, x.link(0, budget - 1), budget == 0 ? NONE : budget - 1);
            if (budget < 20) {
                due("the next one with the budget " + budget, x.told(0, budget, 1), 6);
            }
        }
    }

    private static void budgetOfEachPage() {
        sentence("as many words of the page as its budget says");
        GlossaryLinker x = with(list(), list("cat:", "dog:"), "cat dog");
        on(x, "cat dog").page(1);
        x.budget(1, 1);
        due("page 0", row(x, 0, 1), "0 0");
        due("page 1", row(x, 1, 1), "0 6");
        due("over the sections", on(x, "cat x / cat dog").page(1), 4);
        due("page 1", row(x, 1, 1), "0 1 6 6");
    }

    private static void windowFromNoneToEight() {
        sentence("The window is from 0 to 8, at first 3");
        GlossaryLinker x = new GlossaryLinker();
        due("at first", x.count(4), 3);
        due("below it", x.parameter(0, -1), BAD);
        due("above it", x.parameter(0, 9), BAD);
        for (int window = 0; window <= 8; window++) {
            due("before " + window, x.parameter(0, window), window == 0 ? 3 : window - 1);
            due("the window", x.count(4), window);
        }
    }

    private static void gapFromNoneToNine() {
        sentence("the gap from 0 to 9, at first 0");
        GlossaryLinker x = new GlossaryLinker();
        due("at first", x.count(5), 0);
        due("below it", x.parameter(1, -1), BAD);
        due("above it", x.parameter(1, 10), BAD);
        for (int gap = 0; gap <= 9; gap++) {
            due("before " + gap, x.parameter(1, gap), Math.max(0, gap - 1));
            due("the gap", x.count(5), gap);
        }
    }

    private static void budgetFromNoneToTwenty() {
        sentence("the budget of a page from 0 to 20, at first 20");
        for (int p = 0; p < 4; p++) {
            GlossaryLinker x = new GlossaryLinker();
            due("at first", x.ofPage(p, 2), 20);
            due("below it", x.budget(p, -1), BAD);
            due("above it", x.budget(p, 21), BAD);
            for (int budget = 0; budget <= 20; budget++) {
                due("before " + budget, x.budget(p, budget), budget == 0 ? 20 : budget - 1);
                due("the budget", x.ofPage(p, 2), budget);
            }
        }
    }

    private static void linksFollowAtOnce() {
        sentence("Links follow from the words, rules, senses and numbers as they are.");
        GlossaryLinker x = with(list(), list("cat:"), "cats x x x dog cat");
        due("at first", row(x, 0, 1), "1 1 1 1 1 0");
        on(x, "s>").rule();
        due("a rule", row(x, 0, 1), "0 1 1 1 1 4");
        on(x, "dog:").sense();
        due("a sense", row(x, 0, 1), "0 1 1 1 0 4");
        x.parameter(1, 4);
        due("the gap", row(x, 0, 1), "0 1 1 1 5 4");
        x.parameter(1, 3);
        x.budget(0, 1);
        due("the budget", row(x, 0, 1), "0 1 1 1 6 4");
        x.budget(0, 2);
        x.cut(0, 1);
        due("a word fewer", row(x, 0, 1), "0 1 1 5 4");
        on(x, "dog:cats").sense();
        due("another sense of the head", row(x, 0, 1), "0 1 1 5 4");
        x.parameter(0, 2);
        due("the window", row(x, 0, 1), "0 1 1 2 4");
    }

    private static void linksFollowAtOnceOnRemoval() {
        sentence("Numbers and links follow at once when a sense or rule is removed.");
        GlossaryLinker x = with(list("s>", "es>"), list("cat:", "dog:@1", "ox:"), "cats dogs oxes ox");
        due("at first", row(x, 0, 2), "0 1 2 -5");
        x.removeSense(0);
        due("the links", row(x, 0, 2), "-5 0 1 -5");
        due("the numbers", x.ofSense(0, 2) * 10 + x.ofSense(1, 0), 12);
        due("the linked words of one", x.ofSense(1, 3), 1);
        x.removeRule(1);
        due("the links", row(x, 0, 2), "-5 0 -5 1");
        due("the bases", bases(x, 0, 2), "oxes oxe");
        x.removeRule(0);
        due("the links", row(x, 0, 2), "-5 -5 -5 1");
        due("the sets", x.count(8), 1);
    }
}
