import java.nio.charset.StandardCharsets;
import java.nio.file.Files;
import java.nio.file.Path;
import java.util.ArrayList;
import java.util.Comparator;
import java.util.LinkedHashMap;
import java.util.List;
import java.util.Map;
import java.util.TreeSet;
import java.util.function.Consumer;
import java.util.function.Supplier;
import java.util.function.ToIntFunction;

/** What the tests share: due answers, objects to begin with, and the sentences of the document. */
abstract class TestKit {
    static final int INVALID = -1000001;
    static final int IMPOSSIBLE = -1000002;
    static final int LIMIT = -1000003;
    static final int MISSING = -1000004;
    static final int[] WRONG = {-1, -2, Integer.MIN_VALUE, Integer.MAX_VALUE};

    private static final Path DOCUMENT = Path.of("../shared/DOC.md");
    // far enough below 512 that a recipe's own calls have room too
    private static final int ASKS_OF_ONE_OBJECT = 300;
    private static final int MOST_TOLD = 50;

    private static final Map<String, List<String>> named = new LinkedHashMap<>();
    private static String section = "";
    private static String where = "";
    private static int wrong = 0;

    interface Call {
        int answer(SharedStates x, int number);
    }

    // ---- answers

    /** Begins a test; what is wrong in it is told with these words. */
    static void begin(String words) {
        where = words;
    }

    static void check(boolean right, String what) {
        if (!right) {
            wrong++;
            if (wrong <= MOST_TOLD) {
                System.out.println(where + ": " + what);
            }
        }
    }

    static void due(String what, int got, int want) {
        check(got == want, what + " answered " + got + ", due is " + want);
    }

    /** A call's answers with the numbers from 0 on. */
    static void dueRow(String what, SharedStates x, Call call, int... want) {
        for (int number = 0; number < want.length; number++) {
            due(what + " of " + number, call.answer(x, number), want[number]);
        }
    }

    /** Only with the numbers that are in the range is a call's answer not INVALID_ARGUMENT. */
    static void dueOnly(String what, Supplier<SharedStates> made, Call call, int... inRange) {
        TreeSet<Integer> right = new TreeSet<>();
        TreeSet<Integer> tried = new TreeSet<>(List.of(-1, 0, Integer.MIN_VALUE, Integer.MAX_VALUE, INVALID, 715827883));
        for (int number : inRange) {
            right.add(number);
            tried.addAll(List.of(number - 1, number, number + 1));
            // as far away as a number goes that loses its high bits, or that is multiplied
            for (int power = 5; power < 32; power++) {
                tried.add(number + (1 << power));
                tried.add(number - (1 << power));
            }
        }
        for (int number : tried) {
            int got = call.answer(made.get(), number);
            check((got != INVALID) == right.contains(number), what + " with the number " + number + " answered " + got);
        }
    }

    static int[] range(int lowest, int highest) {
        int[] all = new int[highest - lowest + 1];
        for (int i = 0; i < all.length; i++) {
            all[i] = lowest + i;
        }
        return all;
    }

    // ---- objects

    static void typeAll(SharedStates x, String text) {
        for (int i = 0; i < text.length(); i++) {
            x.type(text.charAt(i));
        }
    }

    static SharedStates withText(String text) {
        SharedStates x = new SharedStates();
        typeAll(x, text);
        return x;
    }

    /** 16 states in a row, 0 to 15; state i has the value i in cell 0, by the block i. */
    static SharedStates withAllStates() {
        SharedStates x = new SharedStates();
        for (int i = 1; i < 16; i++) {
            x.write(0, 0, i);
        }
        return x;
    }

    /** 37 blocks, as setting 0 is 0: each of the states 1 to 6 has its number in all cells, by six blocks of its own. */
    static SharedStates withManyBlocks() {
        SharedStates x = new SharedStates();
        x.set(0, 0);
        for (int i = 1; i <= 6; i++) {
            x.fill(0, 0, 48, i);
        }
        return x;
    }

    /** As withManyBlocks, and state 7 has 9 in the cells 0 to 23, by the blocks 37 to 39. */
    static SharedStates withAllBlocks() {
        SharedStates x = withManyBlocks();
        x.fill(0, 0, 24, 9);
        return x;
    }

    static SharedStates withAllBranches() {
        SharedStates x = new SharedStates();
        x.branch(0);
        x.branch(0);
        x.branch(0);
        return x;
    }

    /** Branch 0 stands at state 1 (5 5 5 0), branch 1 at state 3 (0 6 5 5), whose parent is state 2 (0 5 5 5). */
    static SharedStates withTwoBranches() {
        SharedStates x = new SharedStates();
        x.branch(0);
        x.fill(0, 0, 3, 5);
        x.fill(1, 1, 3, 5);
        x.write(1, 1, 6);
        return x;
    }

    /**
     * With gaps: the states are 0, 1, 3 (parent 1), 4 (parent 0) and 5 (parent 3), the branches 0 at
     * state 5, 2 at state 4 and 3 at state 0, and the blocks 0 to 4, of which 2 is the latest one.
     */
    static SharedStates withGaps() {
        SharedStates x = new SharedStates();
        x.write(0, 0, 1);
        x.branch(1);
        x.fill(1, 0, 16, 2);
        x.write(0, 8, 3);
        x.branch(0);
        x.write(2, 47, 4);
        x.branch(0);
        x.leave(1);
        x.forget(2);
        x.write(0, 16, 5);
        return x;
    }

    static Supplier<SharedStates> and(Supplier<SharedStates> made, Consumer<SharedStates> then) {
        return () -> {
            SharedStates x = made.get();
            then.accept(x);
            return x;
        };
    }

    // ---- pictures

    /** All that can be asked, with what the history keeps too: the same pictures, the same objects. */
    static String picture(Supplier<SharedStates> made) {
        StringBuilder all = new StringBuilder(present(made));
        for (int undone = 1; undone <= 5; undone++) {
            int many = undone;
            all.append(present(and(made, x -> undoTimes(x, many))));
        }
        return all.toString();
    }

    private static void undoTimes(SharedStates x, int many) {
        for (int i = 0; i < many; i++) {
            x.undo();
        }
    }

    /** All that can be asked but for what the history keeps. */
    static String present(Supplier<SharedStates> made) {
        StringBuilder all = new StringBuilder();
        List<ToIntFunction<SharedStates>> asks = asks();
        SharedStates x = made.get();
        for (int i = 0; i < asks.size(); i++) {
            if (i % ASKS_OF_ONE_OBJECT == 0) {
                x = made.get();
            }
            all.append(asks.get(i).applyAsInt(x)).append(' ');
        }
        return all.toString();
    }

    private static List<ToIntFunction<SharedStates>> asks() {
        List<ToIntFunction<SharedStates>> asks = new ArrayList<>();
        for (int i = 0; i <= 20; i++) {
            int what = i;
            asks.add(x -> x.count(what));
            asks.add(x -> x.number(what));
            asks.add(x -> x.head(what));
            asks.add(x -> x.fault(what));
            asks.add(x -> x.heaviest(what));
        }
        for (int state = 0; state <= 20; state++) {
            addAsksOfState(asks, state);
        }
        for (int i = 0; i < 40 * 5; i++) {
            int block = i / 5;
            int what = i % 5;
            asks.add(x -> x.blockOf(block, what));
        }
        return asks;
    }

    private static void addAsksOfState(List<ToIntFunction<SharedStates>> asks, int state) {
        asks.add(x -> x.like(state));
        asks.add(x -> x.frees(state));
        for (int i = 0; i < 48; i++) {
            int number = i;
            asks.add(x -> x.read(state, number));
            asks.add(x -> x.before(state, number));
        }
        for (int i = 0; i < 8; i++) {
            int number = i;
            asks.add(x -> x.stateOf(state, number));
            asks.add(x -> x.blockAt(state, number));
            asks.add(x -> x.conflicts(number, state));
            asks.add(x -> x.unlike(state, 0, number));
            asks.add(x -> x.unlike(1, state, number));
        }
    }

    // ---- sentences

    /** Begins the sentences of a section of the document. */
    static void section(String heading) {
        section = heading;
        named.put(heading, new ArrayList<>());
    }

    /** Begins the test of a sentence of the document, or of a part of one. */
    static void sentence(String words) {
        begin(section + ": \"" + words + "\"");
        named.get(section).add(words);
    }

    /** Names a sentence that no test can be made of. */
    static void untested(String words) {
        named.get(section).add(words);
    }

    /** The sections of the document: the headings, and the lines below each that are not code. */
    static Map<String, List<String>> document() {
        Map<String, List<String>> sections = new LinkedHashMap<>();
        List<String> lines = new ArrayList<>();
        boolean isCode = false;
        for (String line : documentLines()) {
            if (line.startsWith("```")) {
                isCode = !isCode;
            } else if (!isCode && line.startsWith("#")) {
                lines = new ArrayList<>();
                sections.put(line.replaceFirst("#+ ", ""), lines);
            } else if (!isCode) {
                lines.add(line);
            }
        }
        return sections;
    }

    private static List<String> documentLines() {
        if (!Files.isReadable(DOCUMENT)) {
            return List.of();
        }
        try {
            return Files.readAllLines(DOCUMENT, StandardCharsets.UTF_8);
        } catch (java.io.IOException failure) {
            throw new java.io.UncheckedIOException(failure);
        }
    }

    /** Each sentence that a test names is in the document, and each one of the document in these sections is named. */
    private static void checkSentences() {
        Map<String, List<String>> sections = document();
        if (sections.isEmpty()) {
            System.out.println(DOCUMENT + " cannot be read, so the sentences are not compared with it");
            return;
        }
        for (String heading : named.keySet()) {
            begin(heading);
            check(sections.containsKey(heading), "there is no such section in the document");
            compareSentences(sections.getOrDefault(heading, List.of()), named.get(heading));
        }
    }

    private static void compareSentences(List<String> lines, List<String> words) {
        List<String> longestFirst = new ArrayList<>(words);
        longestFirst.sort(Comparator.comparing(String::length).reversed());
        String all = String.join("\n", lines);
        for (String one : longestFirst) {
            check(all.contains(one), "the document does not say: " + one);
            all = all.replace(one, "");
        }
        for (String rest : all.split("\n")) {
            check(rest.matches("[-\\s.,:;]*"), "no test names: " + rest);
        }
    }

    /** Tells what came of all tests; the last call of a main method. */
    static void finish(String allRight) {
        checkSentences();
        System.out.println(wrong == 0 ? allRight : wrong + " answers are not as due");
        if (wrong != 0) {
            System.exit(1);
        }
    }
}
