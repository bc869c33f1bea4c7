import java.util.function.Consumer;
import java.util.function.Supplier;

/** The sentences of the document's "Texts" and of the promises 25 to 29, undo and texts, each with a test of its own. */
public final class TextsTest extends TestKit {
    private static final Supplier<SharedStates> NEW = SharedStates::new;
    private static final String DIGITS = "0123456789";
    /** Eight writes and a state forgotten: 60 characters without a fault. */
    private static final String SIXTY = "w0,0,1;".repeat(8) + "x01;";

    private static void dueFault(SharedStates x, String text, int position, int reason, int cause) {
        x.clearText();
        typeAll(x, text);
        due("the position of \"" + text + "\"", x.fault(0), position);
        due("the reason of \"" + text + "\"", x.fault(1), reason);
        due("the cause of \"" + text + "\"", x.fault(2), cause);
        if (position != MISSING) {
            due("play of \"" + text + "\"", x.play(), IMPOSSIBLE);
        }
    }

    private static void dueFault(String text, int position, int reason, int cause) {
        dueFault(new SharedStates(), text, position, reason, cause);
    }

    private static void dueNone(String text) {
        dueFault(text, MISSING, MISSING, MISSING);
    }

    /** An order does what the call does, and is not possible where the call returns an error. */
    private static void sameAsCall(Supplier<SharedStates> made, String order, Call call) {
        int answer = call.answer(made.get(), 0);
        if (answer >= 0) {
            Supplier<SharedStates> played = and(made, x -> {
                typeAll(x, order);
                due("play of " + order, x.play(), 1);
                x.clearText();
            });
            Supplier<SharedStates> called = and(made, x -> call.answer(x, 0));
            check(picture(played).equals(picture(called)), order + " is not as the call");
        } else {
            dueFault(made.get(), order, 0, 2, answer);
        }
    }

    // ---- Texts

    private static void lengthOfTheText() {
        sentence("There is a text of at most 60 characters, initially empty");
        SharedStates x = new SharedStates();
        due("the length at first", x.count(10), 0);
        due("no fault at first", x.fault(0), MISSING);
        typeAll(x, SIXTY);
        due("60 characters", x.count(10), 60);
        due("a 61st", x.type('w'), LIMIT);
        due("the length", x.count(10), 60);
        due("no fault of 60", x.fault(0), MISSING);
        due("the orders of 60", x.play(), 9);
        dueFault("w0,0,1;".repeat(8) + "w0,0,1;", 56, 1, 4);
        dueFault(" ".repeat(60), 0, 1, 0);
        dueFault("b0;".repeat(20), 9, 2, LIMIT);
        dueFault("w0,0,1;".repeat(7) + "x1;x2;w0,0;", 55, 1, 4);
    }

    private static void semicolons() {
        sentence("orders, each followed by \";\"");
        dueNone("b0;");
        dueNone("b0;b0;");
        dueFault("b0", 0, 1, 2);
        dueFault("b0;b0", 3, 1, 2);
        dueFault("b0,b0;", 0, 1, 2);
        dueFault("b0b0;", 0, 1, 2);
        dueFault("b0;;", 3, 1, 0);
        dueFault(";", 0, 1, 0);
        dueFault(";b0;", 0, 1, 0);
        dueFault("b0; b0;", 3, 1, 0);
        dueFault("b0;b0; ", 6, 1, 0);
    }

    private static void writeOrders() {
        sentence("\"w\" a branch, \",\", a cell, \",\", a value (written)");
        sameAsCall(NEW, "w0,0,0;", (x, n) -> x.write(0, 0, 0));
        sameAsCall(NEW, "w0,47,999;", (x, n) -> x.write(0, 47, 999));
        sameAsCall(NEW, "w0,48,0;", (x, n) -> x.write(0, 48, 0));
        sameAsCall(NEW, "w1,0,0;", (x, n) -> x.write(1, 0, 0));
        sameAsCall(TestKit::withAllBranches, "w3,8,7;", (x, n) -> x.write(3, 8, 7));
        sameAsCall(TestKit::withAllBranches, "w4,8,7;", (x, n) -> x.write(4, 8, 7));
        sameAsCall(TestKit::withAllStates, "w0,0,15;", (x, n) -> x.write(0, 0, 15));
        sameAsCall(TestKit::withAllBlocks, "w0,24,9;", (x, n) -> x.write(0, 24, 9));
        sameAsCall(TestKit::withAllBlocks, "w0,23,9;", (x, n) -> x.write(0, 23, 9));
    }

    private static void fillOrders() {
        sentence("\"f\" a branch, \",\", a cell, \",\", how many, \",\", a value (filled)");
        sameAsCall(NEW, "f0,0,48,999;", (x, n) -> x.fill(0, 0, 48, 999));
        sameAsCall(NEW, "f0,47,1,0;", (x, n) -> x.fill(0, 47, 1, 0));
        sameAsCall(NEW, "f0,7,10,3;", (x, n) -> x.fill(0, 7, 10, 3));
        sameAsCall(NEW, "f0,47,2,0;", (x, n) -> x.fill(0, 47, 2, 0));
        sameAsCall(NEW, "f0,0,0,0;", (x, n) -> x.fill(0, 0, 0, 0));
        sameAsCall(NEW, "f0,0,49,0;", (x, n) -> x.fill(0, 0, 49, 0));
        sameAsCall(NEW, "f0,48,1,0;", (x, n) -> x.fill(0, 48, 1, 0));
        sameAsCall(NEW, "f1,0,1,0;", (x, n) -> x.fill(1, 0, 1, 0));
        sameAsCall(TestKit::withAllBranches, "f2,0,9,7;", (x, n) -> x.fill(2, 0, 9, 7));
        sameAsCall(TestKit::withAllStates, "f0,0,1,0;", (x, n) -> x.fill(0, 0, 1, 0));
        sameAsCall(TestKit::withManyBlocks, "f0,0,24,9;", (x, n) -> x.fill(0, 0, 24, 9));
        sameAsCall(TestKit::withManyBlocks, "f0,0,25,9;", (x, n) -> x.fill(0, 0, 25, 9));
    }

    private static void branchOrders() {
        sentence("\"b\" a state (a branch)");
        sameAsCall(NEW, "b0;", (x, n) -> x.branch(0));
        sameAsCall(NEW, "b1;", (x, n) -> x.branch(1));
        sameAsCall(TestKit::withGaps, "b4;", (x, n) -> x.branch(4));
        sameAsCall(TestKit::withGaps, "b2;", (x, n) -> x.branch(2));
        sameAsCall(TestKit::withAllStates, "b15;", (x, n) -> x.branch(15));
        sameAsCall(TestKit::withAllStates, "b16;", (x, n) -> x.branch(16));
        sameAsCall(TestKit::withAllBranches, "b0;", (x, n) -> x.branch(0));
        sameAsCall(TestKit::withAllBranches, "b1;", (x, n) -> x.branch(1));
    }

    private static void mergeOrders() {
        sentence("\"m\" a branch, \",\", a state (merged)");
        sameAsCall(NEW, "m0,0;", (x, n) -> x.merge(0, 0));
        sameAsCall(NEW, "m1,0;", (x, n) -> x.merge(1, 0));
        sameAsCall(NEW, "m0,1;", (x, n) -> x.merge(0, 1));
        sameAsCall(TestKit::withTwoBranches, "m0,3;", (x, n) -> x.merge(0, 3));
        sameAsCall(TestKit::withTwoBranches, "m1,1;", (x, n) -> x.merge(1, 1));
        sameAsCall(TestKit::withGaps, "m0,4;", (x, n) -> x.merge(0, 4));
        sameAsCall(TestKit::withAllStates, "m0,0;", (x, n) -> x.merge(0, 0));
        Supplier<SharedStates> full = and(TestKit::withAllBlocks, x -> x.branch(0));
        sameAsCall(full, "m1,7;", (x, n) -> x.merge(1, 7));
    }

    private static void forgetOrders() {
        sentence("or \"x\" a state (forgotten)");
        sameAsCall(NEW, "x0;", (x, n) -> x.forget(0));
        sameAsCall(NEW, "x1;", (x, n) -> x.forget(1));
        sameAsCall(TestKit::withGaps, "x1;", (x, n) -> x.forget(1));
        sameAsCall(TestKit::withGaps, "x2;", (x, n) -> x.forget(2));
        sameAsCall(TestKit::withGaps, "x4;", (x, n) -> x.forget(4));
        sameAsCall(TestKit::withAllStates, "x14;", (x, n) -> x.forget(14));
        sameAsCall(TestKit::withAllBlocks, "x1;", (x, n) -> x.forget(1));
    }

    private static void numbers() {
        sentence("numbers of 1 to 3 digits, 0 ahead allowed.");
        dueNone("w00,00,00;");
        dueNone("w000,000,000;");
        dueNone("w000,047,999;");
        dueNone("f000,008,040,010;");
        dueNone("b000;m001,000;");
        dueNone("w0,0,1;w0,0,2;x001;");
        dueFault("w,0,0;", 0, 1, 1);
        dueFault("w0,,0;", 0, 1, 3);
        dueFault("w0,0,;", 0, 1, 5);
        dueFault("w0000,0,0;", 0, 1, 4);
        dueFault("w0,0000,0;", 0, 1, 6);
        dueFault("w0,0,0000;", 0, 1, 8);
        dueFault("w0,0,1000;", 0, 1, 8);
        dueFault("f0,0,0001,0;", 0, 1, 8);
        dueFault("b0000;", 0, 1, 4);
        dueFault("b;", 0, 1, 1);
        dueFault("m0,0000;", 0, 1, 6);
        dueFault("x0001;", 0, 1, 4);
        dueFault("x-1;", 0, 1, 1);
        dueFault("x+1;", 0, 1, 1);
        dueFault("x 1;", 0, 1, 1);
        dueFault("b999;", 0, 2, INVALID);
        dueFault("w999,0,0;", 0, 2, INVALID);
        SharedStates x = withText("w0,010,010;f0,040,008,099;");
        due("play", x.play(), 2);
        due("a number with 0 ahead is no other", x.read(2, 10), 10);
        due("a number with 0 ahead is no other", x.stateOf(2, 3), 802);
        SharedStates y = withText("w0,9,123;w0,8,321;");
        due("play", y.play(), 2);
        due("three digits", y.read(2, 9), 123);
        due("three digits", y.read(2, 8), 321);
        stateNumbersOfThreeDigits();
    }

    private static void stateNumbersOfThreeDigits() {
        SharedStates x = new SharedStates();
        for (int i = 1; i <= 100; i++) {
            x.write(0, 0, i);
            x.back(0);
            x.forget(i);
        }
        due("the state", x.write(0, 0, 7), 101);
        dueFault(x, "b101;", MISSING, MISSING, MISSING);
        dueFault(x, "b100;", 0, 2, INVALID);
        dueFault(x, "x101;", 0, 2, IMPOSSIBLE);
        dueFault(x, "m0,101;", MISSING, MISSING, MISSING);
    }

    private static void positions() {
        sentence("The fault of the text is the position, from 0, of the first character of the first order that is not possible");
        dueFault("x", 0, 1, 1);
        dueFault("x1;", 0, 2, INVALID);
        dueFault("b0;x", 3, 1, 1);
        dueFault("b0;b0;x1;", 6, 2, INVALID);
        dueFault("w0,0,1;x1;x9;q", 7, 2, IMPOSSIBLE);
        dueFault("b9;q", 0, 2, INVALID);
        dueFault("b0;q;b9;", 3, 1, 0);
        dueFault("w000,000,000;b000;x000;", 18, 2, IMPOSSIBLE);
        dueFault("w0,0,1;".repeat(8) + "x8;", 56, 2, IMPOSSIBLE);
        dueFault("w0,0,1;".repeat(8) + "x1;q", 59, 1, 0);
        dueNone("w0,0,1;".repeat(8) + "x1;");
    }

    private static void reasons() {
        sentence("its reason is 1 if it is not of this form, its \";\" included, and otherwise 2, when those ahead of it are done");
        dueFault("x9", 0, 1, 2);
        dueFault("x9;", 0, 2, INVALID);
        dueFault("w1,0,0", 0, 1, 6);
        dueFault("w1,0,0;", 0, 2, INVALID);
        dueNone("b0;w1,0,0;");
        dueFault("w1,0,0;b0;", 0, 2, INVALID);
        dueFault("w0,0,1;x1;", 7, 2, IMPOSSIBLE);
        dueNone("w0,0,1;w0,0,2;x1;");
        dueFault("w0,0,1;w0,0,2;x1;x1;", 17, 2, INVALID);
        dueFault("b0;b0;b0;b0;", 9, 2, LIMIT);
        SharedStates x = withAllStates();
        dueFault(x, "x1;w0,0,1;w0,0,1;", 10, 2, LIMIT);
        dueFault(x, "x1;x2;w0,0,1;m0,16;", MISSING, MISSING, MISSING);
        dueFault(x, "x1;x2;w0,0,1;m0,17;", 13, 2, INVALID);
        due("states, as nothing was done", x.count(0), 16);
        SharedStates y = withAllBlocks();
        dueFault(y, "w0,0,1;x1;", 0, 2, LIMIT);
        dueFault(y, "x1;f0,0,48,1;w0,0,2;", 13, 2, LIMIT);
        dueFault(y, "x1;f0,0,48,1;x7;w0,0,2;", MISSING, MISSING, MISSING);
        due("blocks, as nothing was done", y.count(2), 40);
        SharedStates z = withTwoBranches();
        dueFault(z, "m0,3;m1,4;x1;x2;x3;x4;", 19, 2, IMPOSSIBLE);
        dueFault(z, "m0,3;m1,4;x1;x2;x3;", MISSING, MISSING, MISSING);
        z.leave(1);
        due("the fault of the same text later", z.fault(0), 5);
        due("its cause", z.fault(2), INVALID);
    }

    private static void causes() {
        sentence("its cause is with the reason 1 at which character of the order, from 0, it breaks off (of one that the "
            + "text ends too early it is its length)");
        breaksOff("", "wfbmx");
        breaksOff("w", DIGITS);
        breaksOff("w0", DIGITS + ",");
        breaksOff("w00", DIGITS + ",");
        breaksOff("w000", ",");
        breaksOff("w0,", DIGITS);
        breaksOff("w0,1", DIGITS + ",");
        breaksOff("w0,001", ",");
        breaksOff("w0,1,", DIGITS);
        breaksOff("w0,1,2", DIGITS + ";");
        breaksOff("w0,1,22", DIGITS + ";");
        breaksOff("w000,001,222", ";");
        breaksOff("f", DIGITS);
        breaksOff("f0", DIGITS + ",");
        breaksOff("f0,", DIGITS);
        breaksOff("f0,1", DIGITS + ",");
        breaksOff("f0,1,", DIGITS);
        breaksOff("f0,1,2", DIGITS + ",");
        breaksOff("f0,1,002", ",");
        breaksOff("f0,1,2,", DIGITS);
        breaksOff("f0,1,2,3", DIGITS + ";");
        breaksOff("f000,001,002,333", ";");
        breaksOff("b", DIGITS);
        breaksOff("b0", DIGITS + ";");
        breaksOff("b000", ";");
        breaksOff("m", DIGITS);
        breaksOff("m0", DIGITS + ",");
        breaksOff("m000", ",");
        breaksOff("m0,", DIGITS);
        breaksOff("m0,0", DIGITS + ";");
        breaksOff("m000,000", ";");
        breaksOff("x", DIGITS);
        breaksOff("x1", DIGITS + ";");
        breaksOff("x001", ";");
    }

    /** The start of an order, and all characters that the form allows behind it. */
    private static void breaksOff(String start, String allowed) {
        for (String ahead : new String[] {"", "b0;", "w0,0,1;b1;"}) {
            SharedStates x = new SharedStates();
            int position = ahead.length();
            if (!start.isEmpty()) {
                dueFault(x, ahead + start, position, 1, start.length());
            }
            for (char sign = 32; sign <= 126; sign++) {
                String text = ahead + start + sign;
                if (allowed.indexOf(sign) < 0) {
                    x = new SharedStates();
                    dueFault(x, text, position, 1, start.length());
                    dueFault(x, text + "0,0;", position, 1, start.length());
                } else if (sign != ';') {
                    x = new SharedStates();
                    dueFault(x, text, position, 1, start.length() + 1);
                }
            }
        }
    }

    private static void errorCodes() {
        sentence("and with the reason 2 the error code that the call returns for it.");
        dueFault("w0,48,0;", 0, 2, INVALID);
        dueFault("f0,40,9,0;", 0, 2, INVALID);
        dueFault("b1;", 0, 2, INVALID);
        dueFault("m0,1;", 0, 2, INVALID);
        dueFault("x1;", 0, 2, INVALID);
        dueFault("x0;", 0, 2, IMPOSSIBLE);
        dueFault(withAllBranches(), "b0;", 0, 2, LIMIT);
        dueFault(withAllBranches(), "b1;", 0, 2, INVALID);
        dueFault(withAllStates(), "w0,0,0;", 0, 2, LIMIT);
        dueFault(withAllStates(), "w0,48,0;", 0, 2, INVALID);
        dueFault(withAllStates(), "f0,0,1,0;", 0, 2, LIMIT);
        dueFault(withAllStates(), "m0,1;", 0, 2, LIMIT);
        dueFault(withAllStates(), "m0,16;", 0, 2, INVALID);
        dueFault(withAllStates(), "x15;", 0, 2, IMPOSSIBLE);
        dueFault(withAllBlocks(), "f0,0,48,1;", 0, 2, LIMIT);
        dueFault(withAllBlocks(), "x7;", 0, 2, IMPOSSIBLE);
        dueFault(withAllBlocks(), "x8;", 0, 2, INVALID);
    }

    // ---- undo

    private static void undo() {
        section("Promise 25: undo");
        sentence("`int undo()`: Undoes the latest change of the history, which is removed from it.");
        SharedStates x = new SharedStates();
        x.write(0, 0, 1);
        x.write(0, 0, 2);
        due("undo", x.undo(), 1);
        due("the latest", x.head(0), 1);
        due("undo", x.undo(), 0);
        due("the one before", x.head(0), 0);
        due("the number is that of the next state again", x.write(0, 0, 3), 1);
        due("its cell", x.read(1, 0), 3);
        due("undo of what came after an undo", x.undo(), 0);
        due("the cell", x.read(1, 0), INVALID);
        sentence("Returns the number of changes that can be undone then; NOT_POSSIBLE if there is none.");
        due("undo of a new object", new SharedStates().undo(), IMPOSSIBLE);
        due("undo as all is undone", x.undo(), IMPOSSIBLE);
        SharedStates y = withAllStates();
        dueRow("undo", y, (s, i) -> s.undo(), 3, 2, 1, 0, IMPOSSIBLE, IMPOSSIBLE);
        due("what is no longer kept is not undone", y.head(0), 11);
        y.write(0, 0, 1);
        due("undo", y.undo(), 0);
        due("undo", y.undo(), IMPOSSIBLE);
        historyAsARing();
    }

    /** Changes and undos in turn, so that the oldest record goes at each place where the history can keep one. */
    private static void historyAsARing() {
        SharedStates x = new SharedStates();
        for (int i = 1; i <= 11; i++) {
            due("write", x.write(0, 0, i), i);
            due("write", x.write(0, 0, i), i + 1);
            due("undo", x.undo(), Math.min(i, 3));
            due("head", x.head(0), i);
            due("cell", x.read(i, 0), i);
        }
        dueRow("undo", x, (s, i) -> s.undo(), 2, 1, 0, IMPOSSIBLE);
        due("head", x.head(0), 8);
        due("cell", x.read(8, 0), 8);
    }

    // ---- type, clearText

    private static void type() {
        section("Promise 26: type");
        sentence("`int type(int character)`: Appends a character to the text.");
        SharedStates x = new SharedStates();
        due("type", x.type('b'), 1);
        due("no order yet", x.fault(2), 1);
        due("type", x.type('0'), 2);
        due("no order yet", x.fault(2), 2);
        due("type", x.type(';'), 3);
        due("an order", x.fault(2), MISSING);
        due("play", x.play(), 1);
        due("type behind it", x.type('q'), 4);
        due("the fault behind it", x.fault(0), 3);
        sentence("`character`: 32 to 126");
        dueOnly("type", NEW, (s, n) -> s.type(n), range(32, 126));
        sentence("Returns the length of the text; INVALID_ARGUMENT if character is out of range; LIMIT_REACHED if it "
            + "has 60 characters.");
        SharedStates y = new SharedStates();
        for (int i = 1; i <= 60; i++) {
            due("type", y.type(i % 2 == 0 ? 32 : 126), i);
        }
        due("a 61st", y.type(126), LIMIT);
        due("a 61st again", y.type(32), LIMIT);
        due("a 61st, below", y.type(31), INVALID);
        due("a 61st, above", y.type(127), INVALID);
        due("the length", y.count(10), 60);
        y.clearText();
        due("the first again", y.type(32), 1);
    }

    private static void clearText() {
        section("Promise 27: clearText");
        sentence("`int clearText()`: Empties the text.");
        SharedStates x = withText("q;");
        x.clearText();
        due("the length", x.count(10), 0);
        due("no fault", x.fault(0), MISSING);
        due("no orders", x.play(), 0);
        typeAll(x, "b0;");
        due("what was cleared is not ahead", x.fault(0), MISSING);
        due("nor behind", x.play(), 1);
        sentence("Returns the length it had.");
        due("three", x.clearText(), 3);
        due("none", x.clearText(), 0);
        due("none of a new object", new SharedStates().clearText(), 0);
        due("one", withText("b").clearText(), 1);
        SharedStates y = withText(SIXTY);
        y.type('b');
        due("60", y.clearText(), 60);
    }

    // ---- fault, play

    private static void fault() {
        section("Promise 28: fault");
        sentence("`int fault(int what)`: Tells about the fault of the text.");
        Supplier<SharedStates> made = () -> withText("b0;w1,0,7;f0,0,48,8;m0,1;x2;q");
        String before = picture(made);
        Consumer<SharedStates> ask = x -> {
            due("the position", x.fault(0), 28);
            due("the reason", x.fault(1), 1);
            due("the cause", x.fault(2), 0);
        };
        check(picture(and(made, ask)).equals(before), "the question changes something");
        sentence("`what`: 0: its position");
        due("the first", withText("q").fault(0), 0);
        due("the last of 60", withText(SIXTY.substring(0, 59) + "1;").fault(0), 56);
        due("the last character of 60", withText("w0,0,1;".repeat(8) + "x1;q").fault(0), 59);
        sentence("1: its reason");
        due("not of the form", withText("b0;x").fault(1), 1);
        due("not possible", withText("b0;x0;").fault(1), 2);
        sentence("2: its cause");
        due("where it breaks off", withText("b0;x").fault(2), 1);
        due("at its first character", withText("b0;q").fault(2), 0);
        due("the error", withText("b0;x0;").fault(2), IMPOSSIBLE);
        sentence("Returns that; INVALID_ARGUMENT if what is out of range; NOT_FOUND if the text has no fault (also if it is empty).");
        dueOnly("fault of a fault", () -> withText("q"), (s, n) -> s.fault(n), 0, 1, 2);
        dueOnly("fault of an order", () -> withText("b0;"), (s, n) -> s.fault(n), 0, 1, 2);
        dueOnly("fault of no text", NEW, (s, n) -> s.fault(n), 0, 1, 2);
        dueRow("fault of an order", withText("b0;"), SharedStates::fault, MISSING, MISSING, MISSING, INVALID);
        dueRow("fault of no text", new SharedStates(), SharedStates::fault, MISSING, MISSING, MISSING, INVALID);
        SharedStates x = withText("q");
        due("a fault", x.fault(0), 0);
        x.clearText();
        due("no fault, as the text is empty again", x.fault(0), MISSING);
        due("nor a cause", x.fault(2), MISSING);
    }

    private static void play() {
        section("Promise 29: play");
        sentence("`int play()`: Does all orders of the text, which stays.");
        SharedStates x = withText("b0;w0,3,5;f1,2,3,7;m0,2;x1;");
        due("play", x.play(), 5);
        due("the text stays", x.count(10), 27);
        SharedStates y = new SharedStates();
        y.branch(0);
        y.write(0, 3, 5);
        y.fill(1, 2, 3, 7);
        y.merge(0, 2);
        y.forget(1);
        for (int what = 0; what < 9; what++) {
            due("count(" + what + "), as the calls", x.count(what), y.count(what));
        }
        dueRow("the cell", x, (s, cell) -> s.read(3, cell), 0, 0, 7, 5, 7, 0);
        dueRow("the head", x, SharedStates::head, 3, 2, INVALID);
        due("the same text again has a fault", x.play(), IMPOSSIBLE);
        due("the text stays", x.count(10), 27);
        sentence("They are one change, also if there are none.");
        due("changes", x.count(9), 1);
        due("undo", x.undo(), 0);
        due("all is undone", x.count(5), 1);
        due("the text stays", x.count(10), 27);
        SharedStates z = new SharedStates();
        for (int i = 1; i <= 5; i++) {
            due("play of none", z.play(), 0);
            due("changes", z.count(9), Math.min(i, 4));
        }
        SharedStates w = withText(SIXTY);
        w.write(0, 0, 2);
        due("play of nine", w.play(), 9);
        due("changes", w.count(9), 2);
        due("undo", w.undo(), 1);
        due("head", w.head(0), 1);
        sentence("Returns how many there are in it; NOT_POSSIBLE if it has a fault.");
        due("none", new SharedStates().play(), 0);
        due("one", withText("b0;").play(), 1);
        due("nine", withText(SIXTY).play(), 9);
        due("conflicts are not told", and(TestKit::withTwoBranches, s -> typeAll(s, "m0,3;")).get().play(), 1);
        due("a fault of the reason 1", withText("b0;b").play(), IMPOSSIBLE);
        due("a fault of the reason 2", withText("b0;b1;").play(), IMPOSSIBLE);
        due("a limit", withText("b0;b0;b0;b0;").play(), IMPOSSIBLE);
        SharedStates v = withText("b0;q");
        v.play();
        due("what is ahead of a fault is not done", v.count(1), 1);
        due("nor a change", v.count(9), 0);
    }

    public static void main(String[] args) {
        section("Texts");
        lengthOfTheText();
        semicolons();
        writeOrders();
        fillOrders();
        branchOrders();
        mergeOrders();
        forgetOrders();
        numbers();
        positions();
        reasons();
        causes();
        errorCodes();
        undo();
        type();
        clearText();
        fault();
        play();
        finish("the texts hold");
    }
}
