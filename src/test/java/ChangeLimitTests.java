/** Edits, changes and the snapshot: a test for each sentence that names a limit or a call that is refused. */
public final class ChangeLimitTests extends Checks {
    private static final String[] CHANGES = list("page", "sense", "rule", "removeSense", "removeRule", "window",
            "gap", "budget", "insert", "replace", "cut");

    public static void main(String[] args) throws ReflectiveOperationException {
        runAll(ChangeLimitTests.class);
    }

    private static GlossaryLinker object() {
        return with(list("s>"), list("cat:x@1"), "cats b / dog");
    }

    private static int change(GlossaryLinker x, String name) {
        switch (name) {
            case "page":
                return on(x, "dog / cat").page(0);
            case "sense":
                return on(x, "dog:").sense();
            case "rule":
                return on(x, "g>").rule();
            case "removeSense":
                return x.removeSense(0);
            case "removeRule":
                return x.removeRule(0);
            case "window":
                return x.parameter(0, 5);
            case "gap":
                return x.parameter(1, 5);
            case "budget":
                return x.budget(3, 5);
            case "insert":
                return on(x, "cow").insert(0, 1);
            case "replace":
                return on(x, "cow").replace(0, 1);
            default:
                return x.cut(0, 2);
        }
    }

    private static int answerOf(String name) {
        switch (name) {
            case "page":
            case "cut":
                return 2;
            case "sense":
            case "rule":
                return 1;
            case "window":
            case "replace":
                return 3;
            case "budget":
                return 20;
            case "insert":
                return 4;
            default:
                return 0;
        }
    }

    private static GlossaryLinker edited() {
        GlossaryLinker x = with(list(), list("cat:", "dog:"), "cat cat / dog");
        due("an edit", x.cut(0, 0), 2);
        due("what it told", edits(x), "1 1 0");
        return x;
    }

    private static void noEdit() {
        sentence("Returns the number, -5 if there was no edit");
        GlossaryLinker x = new GlossaryLinker();
        due("at first", edits(x), "-5 -5 -5");
        on(x, "cat").page(0);
        on(x, "cat:").sense();
        due("page and sense are none", edits(x), "-5 -5 -5");
        due("what 3", x.edited(3), NONE);
        x.cut(0, 1);
        on(x, "?").insert(0, 0);
        due("refused calls are none", edits(x), "-5 -5 -5");
        x.cut(0, 0);
        due("an edit", edits(x), "0 1 -5");
    }

    private static void insertIsAnEdit() {
        sentence("An edit is a successful call of insert, replace or cut.");
        GlossaryLinker x = edited();
        on(x, "q").insert(0, 0);
        due("insert", edits(x), "0 0 -5");
    }

    private static void replaceIsAnEdit() {
        sentence("An edit is a successful call of insert, replace or cut.");
        GlossaryLinker x = edited();
        on(x, "q").replace(0, 0);
        due("replace", edits(x), "0 1 -5");
    }

    private static void cutIsAnEdit() {
        sentence("An edit is a successful call of insert, replace or cut.");
        GlossaryLinker x = edited();
        x.cut(0, 1);
        due("cut", edits(x), "0 1 -5");
    }

    private static void refusedEditsTellNothing() {
        sentence("An edit is a successful call of insert, replace or cut.");
        GlossaryLinker x = edited();
        on(x, times("q", 20)).page(1);
        on(x, "?");
        due("no such word", x.cut(0, 2), NONE);
        due("no such word", x.replace(0, 2), NONE);
        due("no such place", x.insert(0, 3), NONE);
        due("no such page", x.insert(4, 0), NONE);
        due("twenty words", x.insert(1, 0), FULL);
        due("a wrong text", x.insert(0, 0), -100);
        due("no text", x.replace(0, 0), -100);
        due("as before", edits(x), "1 1 0");
    }

    private static void otherChangesTellNothing() {
        sentence("What the latest edit told stays at back(), undo() and page().");
        GlossaryLinker x = edited();
        due("image", x.image(), 2);
        on(x, "dog dog").page(0);
        due("at page()", edits(x), "1 1 0");
        x.back();
        due("at back()", edits(x), "1 1 0");
        x.back();
        due("at back() from the edit", edits(x), "1 1 0");
        x.undo();
        due("at undo()", edits(x), "1 1 0");
        x.removeSense(0);
        x.budget(0, 0);
        x.parameter(1, 9);
        due("at other changes", edits(x), "1 1 0");
    }

    private static void undoFromASnapshotAheadOfAnyEdit() {
        sentence("What the latest edit told stays at back(), undo() and page().");
        GlossaryLinker x = with(list(), list("cat:"), "cat cat");
        x.image();
        x.cut(0, 0);
        x.undo();
        due("an edit behind the snapshot", edits(x), "1 1 0");
    }

    private static void wordsThatStayAreTheSame() {
        sentence("The words of the page that stay are the same ones as before, whatever their numbers are.");
        GlossaryLinker x = with(list(), list("cat:", "dog:"), "cat dog / dog cat");
        on(x, "q").insert(0, 0);
        due("each one number later", edits(x), "0 0 -5");
        due("the links", row(x, 0, 2), "-5 0 1 1 0");
        x.cut(0, 0);
        due("each one number earlier", edits(x), "0 0 -5");
        on(x, "q").insert(0, 4);
        due("none behind the last word", edits(x), "0 0 -5");
        on(x, "p").replace(0, 4);
        due("another word", edits(x), "0 0 -5");
    }

    private static void linkThatCame() {
        sentence("a link came if a word is linked behind the edit that was not there");
        GlossaryLinker x = with(list(), list("cat:", "dog:"), "q");
        on(x, "cat").insert(0, 1);
        due("a word that is linked", edits(x), "1 0 1");
        on(x, "cat").insert(0, 2);
        due("a word that is not linked", edits(x), "0 0 -5");
        on(x, "dog").insert(0, 0);
        due("the first word", edits(x), "1 0 0");
    }

    private static void linkThatWent() {
        sentence("a link went if a word was linked ahead of the edit that is not there");
        GlossaryLinker x = with(list(), list("cat:", "dog:"), "q cat dog cat");
        x.cut(0, 0);
        due("a word that was not linked", edits(x), "0 0 -5");
        x.cut(0, 2);
        due("a mention that was not linked", edits(x), "0 0 -5");
        x.cut(0, 1);
        due("a word that was linked", edits(x), "0 1 -5");
        x.cut(0, 0);
        due("the only word", edits(x), "0 1 -5");
        due("no words", x.ofPage(0, 0), 0);
    }

    private static void linkToAnotherSense() {
        sentence("or not linked to the same sense");
        GlossaryLinker x = with(list(), list("bank:a", "bank:b"), "a bank q q bank");
        due("the links", row(x, 0, 2), "-5 0 -5 -5 -5");
        on(x, "b").replace(0, 0);
        due("it came and went", edits(x), "1 1 1");
        due("the links", row(x, 0, 2), "-5 1 -5 -5 -5");
        x.cut(0, 0);
        due("it went", edits(x), "0 1 -5");
        on(x, "a").insert(0, 0);
        due("it came", edits(x), "1 0 1");
    }

    private static void replacedWordIsNotTheSame() {
        sentence("a word that is replaced is not the same one");
        GlossaryLinker x = with(list(), list("cat:"), "q cat");
        on(x, "cat").replace(0, 1);
        due("by the same letters", edits(x), "1 1 1");
        on(x, "q").replace(0, 0);
        due("one that is not linked", edits(x), "0 0 -5");
    }

    private static void linksByTheGapAndTheBudget() {
        sentence("The edit tells how many words came by their links and how many went");
        GlossaryLinker x = with(list(), list("a:", "b:", "c:", "d:"), "a b c d");
        x.parameter(1, 1);
        due("reasons", row(x, 0, 1), "0 5 0 5");
        x.cut(0, 0);
        due("three words", edits(x), "2 2 0");
        due("reasons", row(x, 0, 1), "0 5 0");
        x.parameter(1, 0);
        x.budget(0, 1);
        on(x, "a").insert(0, 0);
        due("the budget", edits(x), "1 1 0");
        due("reasons", row(x, 0, 1), "0 6 6 6");
    }

    private static void firstWordWhoseLinkCame() {
        sentence("2 for the number of the first word behind the edit whose link came, -5 without one");
        GlossaryLinker x = with(list(), list("a:", "b:", "c:"), "a b c q a b c");
        due("reasons", row(x, 0, 1), "0 0 0 1 4 4 4");
        on(x, "q").replace(0, 1);
        due("the later b", edits(x), "1 1 5");
        x.cut(0, 0);
        due("the later a, with its number then", edits(x), "1 1 3");
        on(x, "b").insert(0, 6);
        due("none", edits(x), "0 0 -5");
        due("the budget", x.budget(0, 0), 20);
        x.cut(0, 0);
        due("none without links", edits(x), "0 0 -5");
    }

    private static void editsOfTwentyWords() {
        sentence("if there are 20 words; The edit tells how many words came by their links and how many went");
        String[] senses = list("a:", "b:", "c:", "d:", "e:", "f:");
        GlossaryLinker x = with(list(), senses, "a b c d e / a b c d e / a b c d e / a b c d e");
        x.cut(0, 19);
        due("the last of twenty", edits(x), "0 1 -5");
        on(x, "e").insert(0, 19);
        due("the twentieth", edits(x), "1 0 19");
        on(x, "f").replace(0, 19);
        due("the last one of twenty", edits(x), "1 1 19");
        x.cut(0, 0);
        due("the first of twenty", edits(x), "0 1 -5");
        on(x, "q").insert(0, 0);
        due("nineteen words with other numbers", edits(x), "0 0 -5");
        x.parameter(1, 9);
        x.cut(0, 0);
        due("the same words", edits(x), "0 0 -5");
    }

    private static void tenKindsOfChanges() {
        sentence("The successful calls of page, sense, rule, removeSense, removeRule, parameter, budget, insert, "
                + "replace and cut are changes");
        for (String name : CHANGES) {
            GlossaryLinker x = object();
            String before = state(x);
            due(name, change(x, name), answerOf(name));
            due("changes behind " + name, x.count(3), 4);
            due("is the state the same behind " + name, state(x).equals(before) ? 1 : 0, 0);
            due("back() behind " + name, x.back(), 3);
            due("the state behind back() from " + name, state(x), before);
        }
    }

    private static void changesWithoutADifference() {
        sentence("are changes, also if nothing is different");
        GlossaryLinker x = with(list(), list(), "a b");
        on(x, "a b").page(0);
        due("the same page", x.count(3), 2);
        x.page(1);
        due("an empty page again", x.count(3), 3);
        x.parameter(0, 3);
        due("the same window", x.count(3), 4);
        x.parameter(1, 0);
        due("the same gap", x.count(3), 5);
        x.budget(2, 20);
        due("the same budget", x.count(3), 6);
        on(x, "b").replace(0, 1);
        due("the same word", x.count(3), 7);
        for (int left = 6; left >= 0; left--) {
            due("each is undone by itself", x.back(), left);
        }
        due("the first page too", x.ofPage(0, 0), 0);
    }

    private static void eightChanges() {
        sentence("at most 8 of them can be undone");
        GlossaryLinker x = new GlossaryLinker();
        for (int k = 1; k <= 9; k++) {
            x.parameter(1, k);
            due("behind " + k + " changes", x.count(3), Math.min(k, 8));
        }
        for (int k = 7; k >= 0; k--) {
            due("back()", x.back(), k);
            due("the gap", x.count(5), k + 1);
        }
        due("no ninth", x.back(), STATE);
        due("the gap", x.count(5), 1);
    }

    private static void exactlyEightChanges() {
        sentence("at most 8 of them can be undone");
        GlossaryLinker x = new GlossaryLinker();
        for (int k = 1; k <= 8; k++) {
            x.parameter(1, k);
        }
        for (int k = 7; k >= 0; k--) {
            due("back()", x.back(), k);
        }
        due("the gap of the new object", x.count(5), 0);
        due("no ninth", x.back(), STATE);
    }

    private static void eightChangesOfEachKind() {
        sentence("at most 8 of them can be undone, the latest first");
        GlossaryLinker x = object();
        String before = state(x);
        String[] names = list("cut", "insert", "replace", "budget", "gap", "rule", "sense", "removeSense");
        for (int k = 0; k < names.length; k++) {
            change(x, names[k]);
            due("changes behind " + names[k], x.count(3), Math.min(8, 4 + k));
        }
        due("senses", x.count(0), 1);
        due("removeSense", x.back(), 7);
        due("senses", x.count(0), 2);
        due("sense", x.back(), 6);
        due("senses", x.count(0), 1);
        due("rule", x.back(), 5);
        due("rules", x.count(1), 1);
        due("gap", x.back(), 4);
        due("the gap", x.count(5), 0);
        due("budget", x.back(), 3);
        due("the budget", x.ofPage(3, 2), 20);
        due("replace", x.back(), 2);
        due("the words", page(x, 0), "cats cow b");
        due("insert", x.back(), 1);
        due("the words", page(x, 0), "cats b");
        due("cut", x.back(), 0);
        due("the state", state(x), before);
        due("no more", x.back(), STATE);
        due("the state stays", state(x), before);
    }

    private static void latestFirst() {
        sentence("the latest first");
        GlossaryLinker x = new GlossaryLinker();
        on(x, "a").page(0);
        on(x, "a b").page(0);
        on(x, "a b c").page(0);
        x.back();
        due("the third", page(x, 0), "a b");
        x.back();
        due("the second", page(x, 0), "a");
        x.back();
        due("the first", page(x, 0), "");
    }

    private static void undoneChangesMakeRoom() {
        sentence("behind ten changes, three of them undone, and a new one, six can be undone");
        GlossaryLinker x = new GlossaryLinker();
        for (int k = 1; k <= 10; k++) {
            x.parameter(0, k % 9);
        }
        due("behind ten", x.count(3), 8);
        due("one undone", x.back(), 7);
        due("two undone", x.back(), 6);
        due("three undone", x.back(), 5);
        due("the window of the seventh", x.count(4), 7);
        due("a new one", x.parameter(1, 3), 0);
        due("six", x.count(3), 6);
        int[] windows = {7, 6, 5, 4, 3, 2};
        for (int k = 0; k < 6; k++) {
            due("back()", x.back(), 5 - k);
            due("the window", x.count(4), windows[k]);
        }
        due("no more", x.back(), STATE);
    }

    private static void roomForEightAgain() {
        sentence("Changes that were undone make room");
        GlossaryLinker x = new GlossaryLinker();
        for (int k = 1; k <= 8; k++) {
            x.parameter(1, k);
        }
        x.back();
        x.parameter(1, 9);
        due("seven and a new one", x.count(3), 8);
        for (int k = 7; k >= 0; k--) {
            due("back()", x.back(), k);
        }
        due("the oldest one was kept", x.count(5), 0);
    }

    private static void undoneChangeIsNotUndoneAgain() {
        sentence("Undoes the latest change that was not undone.");
        GlossaryLinker x = new GlossaryLinker();
        x.parameter(1, 1);
        x.parameter(1, 2);
        due("the second", x.back(), 1);
        x.parameter(1, 3);
        due("the third", x.back(), 1);
        due("the gap", x.count(5), 1);
        due("the first", x.back(), 0);
        due("the gap", x.count(5), 0);
        due("none", x.back(), STATE);
    }

    private static void noOtherCallIsAChange() {
        sentence("The successful calls of page, sense, rule, removeSense, removeRule, parameter, budget, insert, "
                + "replace and cut are changes");
        GlossaryLinker x = object();
        x.feed(1, '?', 0, 0, 0, 0);
        x.image();
        x.edited(0);
        x.again(0);
        x.without(0, 0);
        x.link(0, 0);
        x.base(0, 0, 1, 0);
        due("feed, image and questions", x.count(3), 3);
        due("page", x.page(4), NONE);
        due("page", x.page(0), -100);
        due("sense", x.sense(), -100);
        due("rule", x.rule(), -100);
        due("removeSense", x.removeSense(1), NONE);
        due("removeRule", x.removeRule(1), NONE);
        due("parameter", x.parameter(0, 9), BAD);
        due("budget", x.budget(0, 21), BAD);
        due("insert", x.insert(0, 0), -100);
        due("replace", x.replace(0, 0), -100);
        due("cut", x.cut(0, 3), NONE);
        due("refused ones", x.count(3), 3);
        due("back()", x.back(), 2);
        due("back() is none", x.count(3), 2);
        due("undo()", x.undo(), 1);
        due("undo() is none", x.count(3), 0);
    }

    private static void backWithoutChanges() {
        sentence("STATE if there is none");
        GlossaryLinker x = new GlossaryLinker();
        due("a new object", x.back(), STATE);
        x.budget(0, 1);
        due("the only one", x.back(), 0);
        due("no more", x.back(), STATE);
        due("and again", x.back(), STATE);
        due("the changes", x.count(3), 0);
    }

    private static void backLeavesTapeAndCause() {
        sentence("at most 8 of them can be undone, the latest first");
        GlossaryLinker x = object();
        on(x, "?").page(0);
        on(x, "abc");
        x.back();
        due("the tape", x.count(2), 3);
        due("the cause", x.cause(), 1);
        due("the word on the tape", x.page(2), 1);
        due("its letters", page(x, 2), "abc");
    }

    private static void snapshotContainsEverything() {
        sentence("The snapshot contains everything");
        for (String name : CHANGES) {
            GlossaryLinker x = object();
            String before = state(x);
            x.image();
            due(name, change(x, name), answerOf(name));
            due("is the state the same behind " + name, state(x).equals(before) ? 1 : 0, 0);
            due("undo() behind " + name, x.undo(), 1);
            due("the state behind undo() from " + name, state(x), before);
        }
    }

    private static void snapshotOfEveryPage() {
        sentence("The snapshot contains everything");
        GlossaryLinker x = new GlossaryLinker();
        for (int p = 0; p < 4; p++) {
            on(x, "abcd".charAt(p) + " / b").page(p);
            x.budget(p, p + 1);
        }
        String before = state(x);
        x.image();
        for (int p = 0; p < 4; p++) {
            x.page(p);
            x.budget(p, 9);
        }
        x.undo();
        due("all pages", state(x), before);
    }

    private static void snapshotOfAllSensesAndRules() {
        sentence("The snapshot contains everything");
        String[] rules = list("s>a", "s>b", "s>c", "s>d", "s>e", "s>f");
        String[] senses = list("a:p@0", "b:q", "c:r", "d:@3", "e:", "f:", "g:", "h:w,x,y,z");
        GlossaryLinker x = with(rules, senses, "zzs h a");
        String before = state(x);
        x.image();
        for (int r = 0; r < 6; r++) {
            x.removeRule(0);
        }
        for (int s = 0; s < 8; s++) {
            x.removeSense(0);
        }
        on(x, "s>z").rule();
        on(x, "z:@2").sense();
        due("the senses", x.undo(), 8);
        due("all", state(x), before);
    }

    private static void snapshotContainsNoTape() {
        sentence("everything but itself, the tape");
        GlossaryLinker x = object();
        on(x, "ab");
        x.image();
        on(x, "cde");
        x.undo();
        due("the tape", x.count(2), 5);
        due("its word", x.page(2), 1);
        due("its letters", page(x, 2), "abcde");
        x.undo();
        due("an empty one", x.count(2), 0);
    }

    private static void snapshotContainsNoCause() {
        sentence("everything but itself, the tape, the cause");
        GlossaryLinker x = object();
        x.image();
        on(x, "abcdefghijk").page(0);
        x.undo();
        due("the cause", x.cause(), 2);
    }

    private static void snapshotContainsNoEdit() {
        sentence("and what the latest edit told");
        GlossaryLinker x = with(list(), list("cat:"), "cat cat");
        x.cut(0, 0);
        x.image();
        on(x, "q").insert(0, 0);
        x.undo();
        due("the latest one", edits(x), "0 0 -5");
    }

    private static void snapshotContainsNoChanges() {
        sentence("and the changes that can be undone; No changes can be undone then.");
        GlossaryLinker x = object();
        x.image();
        due("changes stay at image()", x.count(3), 3);
        x.budget(0, 1);
        due("undo()", x.undo(), 1);
        due("changes", x.count(3), 0);
        due("back()", x.back(), STATE);
        due("the state stays", x.ofPage(0, 0), 3);
        x.budget(0, 1);
        due("a change behind it", x.count(3), 1);
        due("back()", x.back(), 0);
        due("the budget", x.ofPage(0, 2), 20);
    }

    private static void snapshotStays() {
        sentence("Restores the snapshot, which stays.");
        GlossaryLinker x = object();
        String before = state(x);
        x.image();
        for (int k = 0; k < 3; k++) {
            x.page(0);
            x.removeSense(0);
            due("undo()", x.undo(), 1);
            due("the state", x.ofPage(0, 0), 3);
        }
        due("undo() twice", x.undo(), 1);
        due("the state", state(x), before);
    }

    private static void snapshotStaysAtBack() {
        sentence("everything but itself");
        GlossaryLinker x = object();
        x.image();
        x.budget(0, 1);
        x.back();
        x.back();
        due("a page fewer", x.ofPage(0, 0), 0);
        due("undo()", x.undo(), 1);
        due("the page of the snapshot", x.ofPage(0, 0), 3);
    }

    private static void snapshotInPlaceOfAnEarlierOne() {
        sentence("Takes a snapshot, in place of an earlier one.");
        GlossaryLinker x = object();
        due("one sense", x.image(), 1);
        on(x, "dog:").sense();
        due("two senses", x.image(), 2);
        x.removeSense(0);
        x.removeSense(0);
        due("the later one", x.undo(), 2);
        due("and again", x.undo(), 2);
    }

    private static void undoWithoutASnapshot() {
        sentence("STATE if there is no snapshot");
        GlossaryLinker x = object();
        String before = all(x);
        due("undo()", x.undo(), STATE);
        due("all stays", all(x), before);
        due("the changes too", x.back(), 2);
    }

    private static void snapshotOfANewObject() {
        sentence("Returns the number of senses.");
        GlossaryLinker x = new GlossaryLinker();
        due("none", x.image(), 0);
        for (int s = 0; s < 8; s++) {
            on(x, "a:").sense();
        }
        due("none", x.undo(), 0);
        for (int s = 0; s < 8; s++) {
            on(x, "a:").sense();
        }
        due("eight", x.image(), 8);
        x.removeSense(0);
        due("eight", x.undo(), 8);
    }
}
