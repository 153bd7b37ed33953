import java.util.ArrayDeque;
import java.util.ArrayList;
import java.util.Deque;
import java.util.LinkedHashMap;
import java.util.List;
import java.util.Map;
import java.util.regex.Matcher;
import java.util.regex.Pattern;

/**
 * Runs of calls, chosen by a fixed sequence of numbers, on the class and on a plain model of the
 * document that is written with strings, lists and patterns; every answer must be the same.
 */
public final class ModelTests {
    private static final int RUNS = 2000;
    private static final int CALLS = 512;

    public static void main(String[] args) {
        int runs = args.length > 0 ? Integer.parseInt(args[0]) : RUNS;
        long first = args.length > 1 ? Long.parseLong(args[1]) : 1;
        int wrong = 0;
        for (int run = 0; run < runs && wrong < 3; run++) {
            wrong += new Run(first + run).isWrong() ? 1 : 0;
        }
        System.out.println(wrong == 0 ? "the model agrees" : wrong + " runs are not as the model");
        System.exit(wrong == 0 ? 0 : 1);
    }

    /** One run of calls. */
    private static final class Run {
        private static final String[] NAMES = {"feed", "page", "sense", "rule", "removeSense", "removeRule",
            "parameter", "budget", "insert", "replace", "cut", "edited", "cause", "word", "told", "base",
            "ofSense", "ofPage", "link", "without", "again", "back", "image", "undo", "count"};
        private static final String[] STEMS = {"ab", "abs", "abes", "abses", "ba", "bas", "bass", "baing",
            "aba", "abc", "cab", "cabs", "bab", "babies", "aab", "abcdefghij", "abcdefghs", "a", "s"};
        private static final String[] RULES = {"s>", "es>", "ing>", "ies>y", "s>es", "b>a", "a>b", "s>s",
            "c>ab", "bs>b", "a>abc", "s>ing", "abes>a"};

        private final GlossaryLinker linker = new GlossaryLinker();
        private final Model model = new Model();
        private final StringBuilder log = new StringBuilder();
        private final long seed;
        private long state;
        private int calls;
        private boolean wrong;

        Run(long seed) {
            this.seed = seed;
            this.state = seed * 0x9E3779B97F4A7C15L + 1;
        }

        boolean isWrong() {
            int habit = below(4);
            begin(habit);
            while (calls < CALLS && !wrong) {
                step(habit);
            }
            if (wrong) {
                System.out.println("run " + seed + ":\n" + log);
            }
            return wrong;
        }

        /** Most runs begin with rules, senses and pages, so that there are links from the start. */
        private void begin(int habit) {
            for (int k = 0; k < 2 * habit; k++) {
                if (k % 2 == 0) {
                    give(RULES[below(RULES.length)]);
                    call("rule");
                }
                give(senseText());
                call("sense");
                give(pageText());
                call("page", below(2));
            }
        }

        private int below(int n) {
            state = state * 6364136223846793005L + 1442695040888963407L;
            return (int) ((state >>> 33) % n);
        }

        private void step(int habit) {
            int choice = below(100);
            if (choice < 5) {
                give(pageText());
                call("page", below(40) == 0 ? odd() : below(4));
            } else if (choice < 9) {
                give(senseText());
                call("sense");
            } else if (choice < 11) {
                give(spoilt(RULES[below(RULES.length)]));
                call("rule");
            } else if (choice < 18) {
                edit();
            } else if (choice < 22) {
                settle(habit);
            } else if (choice < 24) {
                call(new String[] {"back", "image", "undo", "back"}[below(below(8) == 0 ? 4 : 1)]);
            } else if (choice < 25) {
                call(NAMES[below(NAMES.length)], odd(), odd(), odd(), odd(), odd(), odd());
            } else {
                ask();
            }
        }

        private void edit() {
            int page = below(4);
            int size = model.now.pages.get(page).words.size();
            int i = below(30) == 0 ? odd() : below(size + 1);
            int kind = below(3);
            if (kind < 2) {
                give(spoilt(anyWord()));
            }
            call(new String[] {"insert", "replace", "cut"}[kind], page, i);
            call("edited", below(3));
        }

        private void settle(int habit) {
            int kind = below(6);
            if (kind == 0) {
                call("parameter", 0, below(10) - (below(9) == 0 ? 1 : 0));
            } else if (kind == 1) {
                call("parameter", 1, habit == 0 ? below(11) : below(3));
            } else if (kind == 2) {
                call("budget", below(4), habit < 2 ? below(22) : below(5));
            } else if (kind == 3) {
                call("removeSense", below(habit == 3 ? 9 : 40));
            } else if (kind == 4) {
                call("removeRule", below(habit == 3 ? 7 : 30));
            } else {
                call("count", 3);
            }
        }

        private void ask() {
            int page = below(60) == 0 ? odd() : below(4);
            int size = page >= 0 && page < 4 ? model.now.pages.get(page).words.size() : 0;
            int i = below(40) == 0 ? odd() : below(Math.max(1, size));
            int sense = below(Math.max(1, model.now.senses.size()) + (below(20) == 0 ? 1 : 0));
            switch (below(16)) {
                case 0:
                    call("edited", below(3));
                    break;
                case 1:
                    call("cause");
                    break;
                case 2:
                    call("word", page, i, below(13) - 2);
                    break;
                case 3:
                case 4:
                case 5:
                    call("told", page, i, below(9) - below(2));
                    break;
                case 6:
                    call("base", page, i, below(8) - (below(9) == 0 ? 1 : 0), below(12) - 2);
                    break;
                case 7:
                    call("base", page, i, below(44), -1);
                    break;
                case 8:
                    call("ofSense", sense, below(5));
                    break;
                case 9:
                    call("ofSense", sense, 9 + below(6));
                    break;
                case 10:
                    call("ofPage", page, below(7));
                    break;
                case 11:
                    call("ofPage", page, 9 + below(9));
                    break;
                case 12:
                    call("link", page, below(6) - (below(9) == 0 ? 1 : 0));
                    break;
                case 13:
                    call("without", page, below(5) - (below(9) == 0 ? 1 : 0));
                    break;
                case 14:
                    call("again", page);
                    break;
                default:
                    call("count", below(10));
            }
        }

        private int odd() {
            int[] values = {-1, -2, 0, 1, 2, 3, 4, 5, 6, 7, 8, 9, 10, 17, 20, 21, 127, 128,
                Integer.MIN_VALUE, Integer.MAX_VALUE, -100, Integer.MIN_VALUE + 9, Integer.MAX_VALUE - 9};
            return values[below(values.length)];
        }

        private String anyWord() {
            return STEMS[below(STEMS.length)];
        }

        private String shortWord() {
            return STEMS[below(7)];
        }

        private String pageText() {
            StringBuilder text = new StringBuilder();
            int words = below(12) == 0 ? 22 : below(20);
            int sections = 1;
            boolean tiny = words > 16 && below(3) > 0;
            for (int i = 0; i < words; i++) {
                boolean cut = i > 0 && below(5) == 0 && (sections < 4 || below(6) == 0);
                sections += cut ? 1 : 0;
                text.append(i == 0 ? "" : cut ? " / " : " ");
                text.append(tiny ? STEMS[below(2) * 4].substring(below(2)) : below(3) == 0 ? anyWord() : shortWord());
            }
            return spoilt(text.toString());
        }

        private String senseText() {
            StringBuilder text = new StringBuilder(below(3) == 0 ? anyWord() : shortWord()).append(":");
            int hints = below(20) == 0 ? 5 : below(5);
            for (int h = 0; h < hints; h++) {
                text.append(h == 0 ? "" : ",").append(below(3) == 0 ? anyWord() : shortWord());
            }
            if (below(4) == 0) {
                text.append("@").append(below(5));
            }
            return spoilt(text.toString());
        }

        private String spoilt(String text) {
            if (below(12) > 0) {
                return text;
            }
            String signs = "abcdefghijklmnopqrstuvwxyz :,@>/ -AZ{`0123456789\0\u007f";
            int at = below(text.length() + 1);
            int kind = below(4);
            char sign = signs.charAt(below(signs.length()));
            if (kind == 0) {
                return text.substring(0, at);
            }
            if (kind == 1) {
                return text.substring(0, at) + sign + text.substring(at);
            }
            if (kind == 2 && at < text.length()) {
                return text.substring(0, at) + sign + text.substring(at + 1);
            }
            return text.substring(0, at) + "abcdefghijk".substring(0, below(12)) + text.substring(at);
        }

        private void give(String text) {
            for (int at = 0; at < text.length() && !wrong; at += 5) {
                int[] bytes = new int[5];
                int n = Math.min(5, text.length() - at);
                for (int k = 0; k < n; k++) {
                    bytes[k] = text.charAt(at + k);
                }
                call("feed", n, bytes[0], bytes[1], bytes[2], bytes[3], bytes[4]);
            }
        }

        private void call(String name, int... given) {
            if (wrong || calls >= CALLS) {
                return;
            }
            calls++;
            int[] a = java.util.Arrays.copyOf(given, 6);
            int got = answer(name, a);
            int due = model.answer(name, a);
            log.append(name).append(java.util.Arrays.toString(a)).append(" answered ").append(got).append('\n');
            if (got != due) {
                wrong = true;
                log.append("the model answers ").append(due).append('\n');
            }
        }

        private int answer(String name, int[] a) {
            switch (name) {
                case "feed": return linker.feed(a[0], a[1], a[2], a[3], a[4], a[5]);
                case "page": return linker.page(a[0]);
                case "sense": return linker.sense();
                case "rule": return linker.rule();
                case "removeSense": return linker.removeSense(a[0]);
                case "removeRule": return linker.removeRule(a[0]);
                case "parameter": return linker.parameter(a[0], a[1]);
                case "budget": return linker.budget(a[0], a[1]);
                case "insert": return linker.insert(a[0], a[1]);
                case "replace": return linker.replace(a[0], a[1]);
                case "cut": return linker.cut(a[0], a[1]);
                case "edited": return linker.edited(a[0]);
                case "cause": return linker.cause();
                case "word": return linker.word(a[0], a[1], a[2]);
                case "told": return linker.told(a[0], a[1], a[2]);
                case "base": return linker.base(a[0], a[1], a[2], a[3]);
                case "ofSense": return linker.ofSense(a[0], a[1]);
                case "ofPage": return linker.ofPage(a[0], a[1]);
                case "link": return linker.link(a[0], a[1]);
                case "without": return linker.without(a[0], a[1]);
                case "again": return linker.again(a[0]);
                case "back": return linker.back();
                case "image": return linker.image();
                case "undo": return linker.undo();
                case "count": return linker.count(a[0]);
                default: throw new IllegalArgumentException(name);
            }
        }
    }

    /** A word of a page; each object is one word, whatever its number is. */
    private static final class Word {
        final String text;
        final List<Word> section;

        Word(String text, List<Word> section) {
            this.text = text;
            this.section = section;
        }
    }

    private static final class Page {
        List<List<Word>> sections = new ArrayList<>();
        List<Word> words = new ArrayList<>();
        int budget = 20;

        void addSection() {
            sections.add(new ArrayList<>());
        }

        void gather() {
            sections.removeIf(List::isEmpty);
            words = new ArrayList<>();
            sections.forEach(words::addAll);
        }

        Page copy() {
            Page copy = new Page();
            for (List<Word> section : sections) {
                copy.addSection();
                for (Word word : section) {
                    List<Word> last = copy.sections.get(copy.sections.size() - 1);
                    last.add(new Word(word.text, last));
                }
            }
            copy.gather();
            copy.budget = budget;
            return copy;
        }
    }

    private record Sense(String head, List<String> hints, int own) { }

    private record Rule(String ending, String replacement) { }

    private static final class State {
        List<Page> pages = new ArrayList<>();
        List<Sense> senses = new ArrayList<>();
        List<Rule> rules = new ArrayList<>();
        int window = 3;
        int gap = 0;

        State copy() {
            State copy = new State();
            pages.forEach(page -> copy.pages.add(page.copy()));
            copy.senses.addAll(senses);
            copy.rules.addAll(rules);
            copy.window = window;
            copy.gap = gap;
            return copy;
        }
    }

    /** A text read: its error position is -1 if it is right. */
    private record Reading(int wrong, int cause) { }

    private static final class Model {
        private static final int NO = -5;
        private static final String WORD = "[a-z]{1,10}";
        private static final String LONG = "[a-z]+";
        private static final Pattern PAGE = Pattern.compile(section(WORD) + "( / " + section(WORD) + "){0,3}");
        private static final Pattern ANY_PAGE = Pattern.compile(section(LONG) + "( / " + section(LONG) + ")*");
        private static final Pattern SENSE = Pattern.compile(WORD + ":(" + WORD + "(," + WORD + ")*)?(@[0-3])?");
        private static final Pattern ANY_SENSE = Pattern.compile(LONG + ":(" + LONG + "(," + LONG + ")*)?(@[0-3])?");
        private static final Pattern RULE = Pattern.compile("[a-z]{1,4}>[a-z]{0,3}");
        private static final Pattern ANY_RULE = Pattern.compile("[a-z]+>[a-z]*");
        private static final Pattern ONE = Pattern.compile(WORD);
        private static final Pattern ANY_ONE = Pattern.compile(LONG);

        State now = new State();
        private final Deque<State> earlier = new ArrayDeque<>();
        private State snapshot;
        private String tape = "";
        private int cause = NO;
        private int[] told = {NO, NO, NO};

        Model() {
            for (int p = 0; p < 4; p++) {
                now.pages.add(new Page());
            }
        }

        private static String section(String word) {
            return word + "( " + word + ")*";
        }

        int answer(String name, int[] a) {
            switch (name) {
                case "feed": return feed(a);
                case "page": return page(a[0]);
                case "sense": return sense();
                case "rule": return rule();
                case "removeSense": return remove(now.senses.size(), a[0], true);
                case "removeRule": return remove(now.rules.size(), a[0], false);
                case "parameter": return parameter(a[0], a[1]);
                case "budget": return budget(a[0], a[1]);
                case "insert": return edit(a[0], a[1], 0);
                case "replace": return edit(a[0], a[1], 1);
                case "cut": return edit(a[0], a[1], 2);
                case "edited": return a[0] >= 0 && a[0] <= 2 ? told[a[0]] : -1;
                case "cause": return cause;
                case "word": return word(a[0], a[1], a[2]);
                case "told": return told(a[0], a[1], a[2]);
                case "base": return base(a[0], a[1], a[2], a[3]);
                case "ofSense": return ofSense(a[0], a[1]);
                case "ofPage": return ofPage(a[0], a[1]);
                case "link": return link(a[0], a[1]);
                case "without": return without(a[0], a[1]);
                case "again": return isPage(a[0]) ? linkedWords(links(a[0])).size() : -1;
                case "back": return back();
                case "image": snapshot = now.copy(); return now.senses.size();
                case "undo": return undo();
                case "count": return count(a[0]);
                default: throw new IllegalArgumentException(name);
            }
        }

        private boolean isPage(int p) {
            return p >= 0 && p <= 3;
        }

        private boolean isWord(int p, int i) {
            return isPage(p) && i >= 0 && i < now.pages.get(p).words.size();
        }

        private void change() {
            earlier.addLast(now.copy());
            if (earlier.size() > 8) {
                earlier.removeFirst();
            }
        }

        private int feed(int[] a) {
            if (a[0] < 1 || a[0] > 5) {
                return -2;
            }
            String more = "";
            for (int k = 1; k <= 5; k++) {
                if (a[k] < 0 || a[k] > 127) {
                    return -2;
                }
                more += k <= a[0] ? String.valueOf((char) a[k]) : "";
            }
            if (tape.length() + more.length() > 80) {
                return -4;
            }
            tape += more;
            return tape.length();
        }

        /** The first byte with which the pattern can't continue, the length if it ends too early, -1. */
        private static int wrongByte(Pattern pattern, String text) {
            for (int length = 1; length <= text.length(); length++) {
                Matcher matcher = pattern.matcher(text.substring(0, length));
                if (!matcher.matches() && !matcher.hitEnd()) {
                    return length - 1;
                }
            }
            return pattern.matcher(text).matches() ? -1 : text.length();
        }

        /** The first byte of the word with this number in the text, counted from 0; -1 without one. */
        private static int startOfWord(String text, int number) {
            Matcher words = Pattern.compile("[a-z]+").matcher(text);
            int seen = 0;
            while (words.find()) {
                if (seen == number) {
                    return words.start();
                }
                seen++;
            }
            return -1;
        }

        private Reading read(Pattern pattern, Pattern any, int mostWords) {
            String text = tape;
            tape = "";
            int wrong = wrongByte(pattern, text);
            int tooMany = startOfWord(text, mostWords);
            if (tooMany >= 0 && (wrong < 0 || wrong >= tooMany)) {
                wrong = tooMany;
            }
            if (wrong < 0) {
                return new Reading(-1, NO);
            }
            int free = wrongByte(any, text);
            boolean form = wrong == text.length() || free >= 0 && free <= wrong;
            boolean inWord = wrong > 0 && wrong < text.length() && isLetter(text, wrong) && isLetter(text, wrong - 1);
            boolean inRule = pattern == RULE;
            cause = form ? 1 : inWord || inRule ? 2 : 3;
            return new Reading(wrong, cause);
        }

        private static boolean isLetter(String text, int i) {
            return text.charAt(i) >= 'a' && text.charAt(i) <= 'z';
        }

        private int page(int p) {
            if (!isPage(p)) {
                return -1;
            }
            String text = tape;
            if (!text.isEmpty()) {
                Reading reading = read(PAGE, ANY_PAGE, 20);
                if (reading.wrong >= 0) {
                    return -100 - reading.wrong;
                }
            }
            tape = "";
            change();
            Page page = now.pages.get(p);
            page.sections.clear();
            for (String section : text.isEmpty() ? new String[0] : text.split(" / ")) {
                page.addSection();
                List<Word> last = page.sections.get(page.sections.size() - 1);
                for (String word : section.split(" ")) {
                    last.add(new Word(word, last));
                }
            }
            page.gather();
            return page.words.size();
        }

        private int sense() {
            if (now.senses.size() == 8) {
                return -4;
            }
            String text = tape;
            Reading reading = read(SENSE, ANY_SENSE, 5);
            if (reading.wrong >= 0) {
                return -100 - reading.wrong;
            }
            change();
            String[] parts = text.split("@");
            String[] sides = parts[0].split(":");
            List<String> hints = sides.length < 2 ? List.of() : List.of(sides[1].split(","));
            now.senses.add(new Sense(sides[0], hints, parts.length < 2 ? NO : parts[1].charAt(0) - '0'));
            return now.senses.size() - 1;
        }

        private int rule() {
            if (now.rules.size() == 6) {
                return -4;
            }
            String text = tape;
            Reading reading = read(RULE, ANY_RULE, 99);
            if (reading.wrong >= 0) {
                return -100 - reading.wrong;
            }
            change();
            now.rules.add(new Rule(text.substring(0, text.indexOf('>')), text.substring(text.indexOf('>') + 1)));
            return now.rules.size() - 1;
        }

        private int remove(int size, int which, boolean sense) {
            if (which < 0 || which >= size) {
                return -1;
            }
            change();
            if (sense) {
                now.senses.remove(which);
            } else {
                now.rules.remove(which);
            }
            return size - 1;
        }

        private int parameter(int what, int v) {
            if (what != 0 && what != 1) {
                return -1;
            }
            if (v < 0 || v > 8 + what) {
                return -2;
            }
            change();
            int before = what == 0 ? now.window : now.gap;
            now.window = what == 0 ? v : now.window;
            now.gap = what == 1 ? v : now.gap;
            return before;
        }

        private int budget(int p, int v) {
            if (!isPage(p)) {
                return -1;
            }
            if (v < 0 || v > 20) {
                return -2;
            }
            change();
            int before = now.pages.get(p).budget;
            now.pages.get(p).budget = v;
            return before;
        }

        private Map<Word, Integer> linkedSenses(int p) {
            Map<Word, Integer> senses = new LinkedHashMap<>();
            List<Word> words = now.pages.get(p).words;
            int[][] links = links(p);
            for (int i : linkedWords(links)) {
                senses.put(words.get(i), links[i][1]);
            }
            return senses;
        }

        private int edit(int p, int i, int kind) {
            if (!isPage(p) || i < 0 || i > now.pages.get(p).words.size()) {
                return -1;
            }
            Page page = now.pages.get(p);
            if (kind > 0 && i == page.words.size()) {
                return -1;
            }
            if (kind == 0 && page.words.size() == 20) {
                return -4;
            }
            String text = tape;
            if (kind < 2) {
                Reading reading = read(ONE, ANY_ONE, 99);
                if (reading.wrong >= 0) {
                    return -100 - reading.wrong;
                }
            }
            change();
            Map<Word, Integer> before = linkedSenses(p);
            if (page.sections.isEmpty()) {
                page.addSection();
            }
            boolean behind = i == page.words.size();
            List<Word> section = behind ? page.sections.get(page.sections.size() - 1) : page.words.get(i).section;
            int at = behind ? section.size() : section.indexOf(page.words.get(i));
            if (kind > 0) {
                section.remove(at);
            }
            if (kind < 2) {
                section.add(at, new Word(text, section));
            }
            page.gather();
            tell(page, before, linkedSenses(p));
            return page.words.size();
        }

        private void tell(Page page, Map<Word, Integer> before, Map<Word, Integer> after) {
            told = new int[] {0, 0, NO};
            for (Word word : page.words) {
                if (after.containsKey(word) && !after.get(word).equals(before.get(word))) {
                    told[0]++;
                    told[2] = told[2] == NO ? page.words.indexOf(word) : told[2];
                }
            }
            for (Word word : before.keySet()) {
                told[1] += before.get(word).equals(after.get(word)) ? 0 : 1;
            }
        }

        private int letter(String text, int k) {
            return k == -1 ? text.length() : k < text.length() ? text.charAt(k) : NO;
        }

        private int word(int p, int i, int k) {
            return !isWord(p, i) || k < -1 ? -1 : letter(now.pages.get(p).words.get(i).text, k);
        }

        private static String apply(Rule rule, String word) {
            int stem = word.length() - rule.ending.length();
            if (!word.endsWith(rule.ending) || stem < 2) {
                return null;
            }
            String result = word.substring(0, stem) + rule.replacement;
            return result.length() > 10 ? null : result;
        }

        /** The different bases in their order, each with the number of rules that lead to it. */
        private Map<String, Integer> bases(String word) {
            Map<String, Integer> bases = new LinkedHashMap<>();
            bases.put(word, 0);
            for (Rule rule : now.rules) {
                String result = apply(rule, word);
                if (result != null) {
                    bases.putIfAbsent(result, 1);
                }
            }
            for (Rule rule : now.rules) {
                String first = apply(rule, word);
                for (Rule other : now.rules) {
                    String result = first == null ? null : apply(other, first);
                    if (result != null) {
                        bases.putIfAbsent(result, 2);
                    }
                }
            }
            return bases;
        }

        private String head(Word word) {
            for (String base : bases(word.text).keySet()) {
                for (Sense sense : now.senses) {
                    if (sense.head.equals(base)) {
                        return base;
                    }
                }
            }
            return null;
        }

        private int score(Sense sense, Word word) {
            int place = word.section.indexOf(word);
            List<Word> ahead = word.section.subList(Math.max(0, place - now.window), place);
            int score = 0;
            for (String hint : sense.hints) {
                score += ahead.stream().anyMatch(w -> bases(w.text).containsKey(hint)) ? 1 : 0;
            }
            return score;
        }

        /** The meant sense and its score, both NO without one. */
        private int[] meant(Word word) {
            String head = head(word);
            List<Integer> rivals = new ArrayList<>();
            for (int s = 0; s < now.senses.size(); s++) {
                if (now.senses.get(s).head.equals(head)) {
                    rivals.add(s);
                }
            }
            int greatest = -1;
            for (int s : rivals) {
                greatest = Math.max(greatest, score(now.senses.get(s), word));
            }
            for (int s : rivals) {
                if (score(now.senses.get(s), word) == greatest && (rivals.size() == 1 || greatest > 0)) {
                    return new int[] {s, greatest};
                }
            }
            return new int[] {NO, NO};
        }

        /** A row for each word: its reason, its meant sense, the score of that. */
        private int[][] links(int p) {
            return links(p, now.pages.get(p).budget, -1);
        }

        private int[][] links(int p, int budget, int leftOut) {
            List<Word> words = now.pages.get(p).words;
            int[][] rows = new int[words.size()][];
            for (int i = 0; i < rows.length; i++) {
                int[] meant = meant(words.get(i));
                rows[i] = new int[] {0, meant[0], meant[1]};
                rows[i][0] = i == leftOut ? 99 : reason(p, rows, i, budget);
            }
            return rows;
        }

        private int reason(int p, int[][] rows, int i, int budget) {
            List<Word> words = now.pages.get(p).words;
            if (head(words.get(i)) == null) {
                return 1;
            }
            if (rows[i][1] == NO) {
                return 2;
            }
            if (now.senses.get(rows[i][1]).own == p) {
                return 3;
            }
            int linked = 0;
            int latest = -1;
            for (int j = 0; j < i; j++) {
                if (rows[j][0] == 0) {
                    linked++;
                    latest = j;
                    if (words.get(j).section == words.get(i).section && rows[j][1] == rows[i][1]) {
                        return 4;
                    }
                }
            }
            if (linked > 0 && i - latest - 1 < now.gap) {
                return 5;
            }
            return linked >= budget ? 6 : 0;
        }

        private List<Integer> linkedWords(int[][] rows) {
            List<Integer> linked = new ArrayList<>();
            for (int i = 0; i < rows.length; i++) {
                if (rows[i][0] == 0) {
                    linked.add(i);
                }
            }
            return linked;
        }

        private int told(int p, int i, int what) {
            if (!isWord(p, i)) {
                return -1;
            }
            Page page = now.pages.get(p);
            Word word = page.words.get(i);
            int[][] rows = links(p);
            switch (what) {
                case 0:
                    for (int s = 0; s < page.sections.size(); s++) {
                        if (page.sections.get(s) == word.section) {
                            return s;
                        }
                    }
                    throw new IllegalStateException();
                case 1: return rows[i][0];
                case 2: return rows[i][0] == 0 ? rows[i][1] : NO;
                case 3: return rows[i][1];
                case 4: return rows[i][2];
                case 5: return head(word) == null ? NO : bases(word.text).get(head(word));
                case 6: return (int) linkedWords(rows).stream().filter(j -> j < i).count();
                case 7: return bases(word.text).size();
                default: return -1;
            }
        }

        private int base(int p, int i, int base, int k) {
            if (!isWord(p, i) || base < 0 || k < -1) {
                return -1;
            }
            List<String> bases = new ArrayList<>(bases(now.pages.get(p).words.get(i).text).keySet());
            return base < bases.size() ? letter(bases.get(base), k) : NO;
        }

        private int linkedTo(int p, int s) {
            int[][] rows = links(p);
            return (int) linkedWords(rows).stream().filter(i -> rows[i][1] == s).count();
        }

        private int ofSense(int s, int what) {
            if (s < 0 || s >= now.senses.size()) {
                return -1;
            }
            Sense sense = now.senses.get(s);
            switch (what) {
                case 0: return sense.head.length();
                case 1: return sense.hints.size();
                case 2: return sense.own;
                case 3: return linkedTo(0, s) + linkedTo(1, s) + linkedTo(2, s) + linkedTo(3, s);
                case 4:
                    int mentions = 0;
                    for (Page page : now.pages) {
                        mentions += page.words.stream().filter(w -> meant(w)[0] == s).count();
                    }
                    return mentions;
                case 10:
                case 11:
                case 12:
                case 13: return linkedTo(what - 10, s);
                default: return -1;
            }
        }

        private int ofPage(int p, int what) {
            if (!isPage(p)) {
                return -1;
            }
            Page page = now.pages.get(p);
            switch (what) {
                case 0: return page.words.size();
                case 1: return page.sections.size();
                case 2: return page.budget;
                case 3: return linkedWords(links(p)).size();
                case 4: return (int) page.words.stream().filter(w -> head(w) != null).count();
                case 5: return leastBudget(p);
                case 10:
                case 11:
                case 12:
                case 13:
                case 14:
                case 15:
                case 16:
                    int words = 0;
                    for (int[] row : links(p)) {
                        words += row[0] == what - 10 ? 1 : 0;
                    }
                    return words;
                default: return -1;
            }
        }

        private int leastBudget(int p) {
            for (int budget = 0; budget <= 20; budget++) {
                boolean hinders = false;
                for (int[] row : links(p, budget, -1)) {
                    hinders |= row[0] == 6;
                }
                if (!hinders) {
                    return budget;
                }
            }
            throw new IllegalStateException();
        }

        private int link(int p, int k) {
            if (!isPage(p) || k < 0) {
                return -1;
            }
            List<Integer> linked = linkedWords(links(p));
            return k < linked.size() ? linked.get(k) : NO;
        }

        private int without(int p, int k) {
            if (!isPage(p) || k < 0 || k >= linkedWords(links(p)).size()) {
                return -1;
            }
            int[][] rows = links(p);
            int leftOut = linkedWords(rows).get(k);
            int[][] others = links(p, now.pages.get(p).budget, leftOut);
            for (int i = leftOut + 1; i < rows.length; i++) {
                if (rows[i][0] != others[i][0] || rows[i][1] != others[i][1]) {
                    return i;
                }
            }
            return NO;
        }

        private int back() {
            if (earlier.isEmpty()) {
                return -3;
            }
            now = earlier.removeLast();
            return earlier.size();
        }

        private int undo() {
            if (snapshot == null) {
                return -3;
            }
            now = snapshot.copy();
            earlier.clear();
            return now.senses.size();
        }

        private int count(int what) {
            int count = 0;
            switch (what) {
                case 0: return now.senses.size();
                case 1: return now.rules.size();
                case 2: return tape.length();
                case 3: return earlier.size();
                case 4: return now.window;
                case 5: return now.gap;
                case 6:
                    for (Page page : now.pages) {
                        count += page.words.size();
                    }
                    return count;
                case 7:
                    for (int p = 0; p < 4; p++) {
                        count += linkedWords(links(p)).size();
                    }
                    return count;
                case 8:
                    for (int s = 0; s < now.senses.size(); s++) {
                        count += ofSense(s, 3) == 0 ? 1 << s : 0;
                    }
                    return count;
                default: return -1;
            }
        }
    }
}
