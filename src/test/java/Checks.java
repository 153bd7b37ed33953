import java.lang.reflect.InvocationTargetException;
import java.lang.reflect.Method;
import java.lang.reflect.Modifier;
import java.util.Arrays;
import java.util.Comparator;

/** What the tests made by hand have in common: counting wrong answers, feeding texts, reading pages. */
abstract class Checks {
    static final int NONE = -1, BAD = -2, STATE = -3, FULL = -4, NO = -5;
    static final int LEAST = Integer.MIN_VALUE, GREATEST = Integer.MAX_VALUE;
    private static final String TWENTY_LINKS = "a b c d e / a b c d e / a b c d e / a b c d e";
    private static int wrong = 0;
    private static String sentence = "";

    /** A call, so that many of them can be tried in the same way. */
    interface Call {
        int to(GlossaryLinker x);
    }

    /** A call with one argument that is out of bounds. */
    interface CallWith {
        int to(GlossaryLinker x, int argument);
    }

    /** Says which words of the document the following answers are about. */
    static void sentence(String words) {
        sentence = words;
    }

    static void due(String call, int got, int want) {
        if (got != want) {
            wrong++;
            System.out.println(sentence + ": " + call + " answered " + got + ", due is " + want);
        }
    }

    static void due(String what, String got, String want) {
        if (!got.equals(want)) {
            wrong++;
            System.out.println(sentence + ": " + what + " is <" + got + ">, due is <" + want + ">");
        }
    }

    static void end(String allRight) {
        System.out.println(wrong == 0 ? allRight : wrong + " answers are not as due");
        System.exit(wrong == 0 ? 0 : 1);
    }

    /** Runs every method without parameters and result, so that no test is left out of a list. */
    static void runAll(Class<?> tests) throws ReflectiveOperationException {
        Method[] methods = tests.getDeclaredMethods();
        Arrays.sort(methods, Comparator.comparing(Method::getName));
        int run = 0;
        for (Method test : methods) {
            boolean plain = test.getParameterCount() == 0 && test.getReturnType() == void.class;
            if (plain && Modifier.isStatic(test.getModifiers())) {
                sentence = test.getName();
                runOne(test);
                run++;
            }
        }
        end(run + " tests of " + tests.getName() + " hold");
    }

    private static void runOne(Method test) throws IllegalAccessException {
        test.setAccessible(true);
        try {
            test.invoke(null);
        } catch (InvocationTargetException thrown) {
            due(test.getName() + " threw " + thrown.getCause() + "; a call", 1, 0);
        }
    }

    /** Feeds a text, so that the next call reads it. */
    static GlossaryLinker on(GlossaryLinker x, String text) {
        int before = x.count(2);
        for (int at = 0; at < text.length(); at += 5) {
            int n = Math.min(5, text.length() - at);
            int[] bytes = new int[5];
            for (int k = 0; k < n; k++) {
                bytes[k] = text.charAt(at + k);
            }
            due("feed of " + text, x.feed(n, bytes[0], bytes[1], bytes[2], bytes[3], bytes[4]), before + at + n);
        }
        return x;
    }

    /** A new object with these rules and senses, and these words on page 0. */
    static GlossaryLinker with(String[] rules, String[] senses, String page) {
        GlossaryLinker x = new GlossaryLinker();
        for (int r = 0; r < rules.length; r++) {
            due("rule of " + rules[r], on(x, rules[r]).rule(), r);
        }
        for (int s = 0; s < senses.length; s++) {
            due("sense of " + senses[s], on(x, senses[s]).sense(), s);
        }
        int words = page.isEmpty() ? 0 : page.replace(" / ", " ").split(" ").length;
        due("page of " + page, on(x, page).page(0), words);
        return x;
    }

    /** A new object with five senses and, on page 0, twenty words that are all linked. */
    static GlossaryLinker twentyLinks() {
        return with(list(), list("a:", "b:", "c:", "d:", "e:"), TWENTY_LINKS);
    }

    static String[] list(String... texts) {
        return texts;
    }

    /** The same text n times with blanks between; none for 0. */
    static String times(String text, int n) {
        return String.join(" ", java.util.Collections.nCopies(n, text));
    }

    static String text(GlossaryLinker x, int page, int i) {
        StringBuilder letters = new StringBuilder();
        int length = x.word(page, i, -1);
        for (int k = 0; k < length; k++) {
            letters.append((char) x.word(page, i, k));
        }
        return letters.toString();
    }

    static String page(GlossaryLinker x, int page) {
        StringBuilder text = new StringBuilder();
        int words = x.ofPage(page, 0);
        int section = 0;
        for (int i = 0; i < words; i++) {
            int here = x.told(page, i, 0);
            text.append(i == 0 ? "" : here == section ? " " : " / ").append(text(x, page, i));
            section = here;
        }
        return text.toString();
    }

    static String bases(GlossaryLinker x, int page, int i) {
        StringBuilder text = new StringBuilder();
        int length = x.base(page, i, 0, -1);
        for (int b = 0; length >= 0; b++) {
            text.append(b == 0 ? "" : " ");
            for (int k = 0; k < length; k++) {
                text.append((char) x.base(page, i, b, k));
            }
            length = x.base(page, i, b + 1, -1);
        }
        return text.toString();
    }

    /** A row of one of the numbers that are told of the words. */
    static String row(GlossaryLinker x, int page, int what) {
        StringBuilder text = new StringBuilder();
        int words = x.ofPage(page, 0);
        for (int i = 0; i < words; i++) {
            text.append(i == 0 ? "" : " ").append(x.told(page, i, what));
        }
        return text.toString();
    }

    static String edits(GlossaryLinker x) {
        return x.edited(0) + " " + x.edited(1) + " " + x.edited(2);
    }

    /** All that a snapshot contains, as far as calls tell it. */
    static String state(GlossaryLinker x) {
        StringBuilder text = new StringBuilder();
        for (int p = 0; p < 4; p++) {
            text.append(page(x, p)).append('|').append(x.ofPage(p, 2)).append('|');
            text.append(row(x, p, 1)).append('|').append(row(x, p, 3)).append('|');
            int words = x.ofPage(p, 0);
            for (int i = 0; i < words; i++) {
                text.append(bases(x, p, i)).append('|');
            }
        }
        int senses = x.count(0);
        for (int s = 0; s < senses; s++) {
            text.append(x.ofSense(s, 0)).append(x.ofSense(s, 1)).append(x.ofSense(s, 2)).append('|');
        }
        return text.append(x.count(1)).append('|').append(x.count(4)).append(x.count(5)).toString();
    }

    /** The state, and what no snapshot contains. */
    static String all(GlossaryLinker x) {
        return state(x) + "|" + x.count(2) + "|" + x.count(3) + "|" + x.cause() + "|" + edits(x);
    }
}
