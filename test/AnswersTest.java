import java.util.function.Supplier;

/** The sentences of the promises 12 to 24, what there is and what would be, each with a test of its own. */
public final class AnswersTest extends TestKit {
    private static final String STATE = "`state`: number of the state";
    private static final String BRANCH = "`branch`: number of the branch";
    private static final String CELL = "`cell`: 0 to 47";
    private static final int[] STATES = {0, 1, 3, 4, 5};
    private static final int[] BRANCHES = {0, 2, 3};
    private static final int[] BLOCKS = {0, 1, 2, 3, 4};
    private static final Supplier<SharedStates> NEW = SharedStates::new;
    private static final Supplier<SharedStates> GAPS = TestKit::withGaps;

    // ---- read

    private static void read() {
        section("Promise 12: read");
        sentence("`int read(int state, int cell)`: Reads a cell.");
        SharedStates x = withGaps();
        int[][] cells = {{0, 0, 0}, {0, 47, 0}, {1, 0, 1}, {1, 8, 0}, {3, 8, 3}, {4, 46, 0}, {4, 47, 4}, {5, 0, 1}, {5, 16, 5}};
        for (int[] row : cells) {
            due("read(" + row[0] + ", " + row[1] + ")", x.read(row[0], row[1]), row[2]);
        }
        sentence(STATE);
        dueOnly("read", GAPS, (s, n) -> s.read(n, 0), STATES);
        sentence(CELL);
        dueOnly("read", GAPS, (s, n) -> s.read(5, n), range(0, 47));
        sentence("Returns the value; INVALID_ARGUMENT if an argument is out of range.");
        due("the lowest value", x.read(0, 1), 0);
        x.write(0, 1, 999);
        due("the highest value", x.read(6, 1), 999);
        due("a state and a cell out of range", x.read(2, 48), INVALID);
        due("a state and a cell below", x.read(-1, -1), INVALID);
    }

    // ---- stateOf

    private static void stateOf() {
        section("Promise 13: stateOf");
        sentence("`int stateOf(int state, int what)`: Returns something of a state.");
        SharedStates x = withGaps();
        dueRow("stateOf(0)", x, (s, what) -> s.stateOf(0, what), MISSING, 2, 0, 0, MISSING, 0, 1, 8, INVALID);
        dueRow("stateOf(1)", x, (s, what) -> s.stateOf(1, what), 0, 1, 1, 1, 1, 0, 2, 0, INVALID);
        dueRow("stateOf(3)", x, (s, what) -> s.stateOf(3, what), 1, 1, 2, 4, 1, 0, 3, 0, INVALID);
        dueRow("stateOf(4)", x, (s, what) -> s.stateOf(4, what), 0, 0, 1, 4, 1, 1, 2, 4, INVALID);
        dueRow("stateOf(5)", x, (s, what) -> s.stateOf(5, what), 3, 0, 3, 9, 1, 1, 4, 1, INVALID);
        sentence(STATE);
        dueOnly("stateOf(.., 1)", GAPS, (s, n) -> s.stateOf(n, 1), STATES);
        dueOnly("stateOf(.., 0)", GAPS, (s, n) -> s.stateOf(n, 0), STATES);
        dueOnly("stateOf(.., 7)", GAPS, (s, n) -> s.stateOf(n, 7), STATES);
        stateOfFamily();
        stateOfBlocks();
        sentence("7: branches that stand at it, as a set (bit k for the branch k)");
        due("all", withAllBranches().stateOf(0, 7), 15);
        SharedStates y = withAllBranches();
        for (int branch = 0; branch < 4; branch++) {
            y.write(branch, 0, 0);
            due("the branch " + branch, y.stateOf(branch + 1, 7), 1 << branch);
        }
        due("none", y.stateOf(0, 7), 0);
        sentence("Returns the number; INVALID_ARGUMENT if an argument is out of range; NOT_FOUND for 0 and 4 of state 0.");
        dueOnly("stateOf(0, ..)", NEW, (s, n) -> s.stateOf(0, n), range(0, 7));
        dueOnly("stateOf(5, ..)", GAPS, (s, n) -> s.stateOf(5, n), range(0, 7));
        due("0 of state 0", y.stateOf(0, 0), MISSING);
        due("4 of state 0", y.stateOf(0, 4), MISSING);
        due("both out of range", y.stateOf(5, 8), INVALID);
        due("4 of no state", y.stateOf(5, 4), INVALID);
    }

    private static void stateOfFamily() {
        sentence("`what`: 0: its parent");
        SharedStates x = withAllStates();
        due("of state 0", x.stateOf(0, 0), MISSING);
        due("of state 1", x.stateOf(1, 0), 0);
        due("of state 15", x.stateOf(15, 0), 14);
        x.forget(14);
        due("of state 15, as 14 is forgotten", x.stateOf(15, 0), 13);
        sentence("1: how many states have it as their parent");
        SharedStates y = new SharedStates();
        due("none", y.stateOf(0, 1), 0);
        for (int i = 1; i < 16; i++) {
            y.write(0, 0, i);
            y.back(0);
            due("children", y.stateOf(0, 1), i);
        }
        due("none of the last one", y.stateOf(15, 1), 0);
        due("one, as a grandchild is none", x.stateOf(0, 1), 1);
        due("one, as 14 is forgotten", x.stateOf(13, 1), 1);
        sentence("2: the steps from it to state 0 by parents");
        SharedStates z = withAllStates();
        dueRow("steps", z, (s, state) -> s.stateOf(state, 2), 0, 1, 2, 3, 4, 5, 6, 7, 8, 9, 10, 11, 12, 13, 14, 15, INVALID);
        z.forget(7);
        due("one less, as one is forgotten", z.stateOf(15, 2), 14);
        due("as many as before, as a later one is forgotten", z.stateOf(6, 2), 6);
        due("of the one of many children", y.stateOf(15, 2), 1);
    }

    private static void stateOfBlocks() {
        sentence("3: the sum of its cells");
        SharedStates x = new SharedStates();
        due("the lowest", x.stateOf(0, 3), 0);
        x.fill(0, 0, 48, 999);
        due("the highest", x.stateOf(1, 3), 48 * 999);
        x.write(0, 47, 0);
        due("without the last cell", x.stateOf(2, 3), 47 * 999);
        x.write(0, 0, 0);
        due("without the first and the last", x.stateOf(3, 3), 46 * 999);
        sentence("4: places at which it has another block than its parent");
        due("all", x.stateOf(1, 4), 6);
        due("one", x.stateOf(2, 4), 1);
        x.write(0, 0, 0);
        due("none", x.stateOf(4, 4), 0);
        x.set(0, 0);
        x.write(0, 0, 5);
        x.write(0, 0, 0);
        x.forget(5);
        due("one, with a like block of another number", x.stateOf(6, 4), 1);
        x.share();
        due("none, as that is shared", x.stateOf(6, 4), 0);
        due("of state 0", x.stateOf(0, 4), MISSING);
        sentence("5: places with blocks that no other state has at any place");
        SharedStates y = new SharedStates();
        due("all, by one block", y.stateOf(0, 5), 6);
        y.write(0, 0, 1);
        due("none of the parent", y.stateOf(0, 5), 0);
        due("one of the new one", y.stateOf(1, 5), 1);
        y.fill(0, 0, 48, 2);
        due("all again, by one block", y.stateOf(2, 5), 6);
        due("the parent's", y.stateOf(1, 5), 1);
        y.copy(0, 0, 0, 0, 40);
        due("none, as one other place has it", y.stateOf(2, 5), 0);
        y.back(0);
        y.forget(3);
        due("all, as that is forgotten", y.stateOf(2, 5), 6);
        due("three, with the last of 40 blocks", withAllBlocks().stateOf(7, 5), 3);
        sentence("6: how many blocks it has, by their numbers");
        due("one", y.stateOf(0, 6), 1);
        due("two", y.stateOf(1, 6), 2);
        due("one, not block 0", y.stateOf(2, 6), 1);
        SharedStates z = withManyBlocks();
        due("six like ones", z.stateOf(1, 6), 6);
        z.share();
        due("one, as they are shared", z.stateOf(1, 6), 1);
        z.copy(0, 0, 8, 8, 8);
        due("two, as another is between those", z.stateOf(7, 6), 2);
    }

    // ---- number, blockAt, blockOf, head

    private static void number() {
        section("Promise 14: number");
        sentence("`int number(int index)`: Returns the number of a state.");
        dueRow("number", withAllStates(), SharedStates::number, range(0, 15));
        sentence("`index`: 0 for the one with the lowest number, and so on");
        dueRow("number", withGaps(), SharedStates::number, 0, 1, 3, 4, 5, MISSING);
        SharedStates x = withGaps();
        x.forget(1);
        x.write(3, 0, 1);
        dueRow("number", x, SharedStates::number, 0, 3, 4, 5, 6, MISSING);
        sentence("Returns the state; INVALID_ARGUMENT if index is below 0; NOT_FOUND if there are not so many.");
        SharedStates y = new SharedStates();
        due("the only one", y.number(0), 0);
        due("the next one", y.number(1), MISSING);
        due("index 15 of 15", and(TestKit::withAllStates, s -> s.forget(1)).get().number(15), MISSING);
        due("index 16 of 16", withAllStates().number(16), MISSING);
        for (int index : new int[] {17, 256, 65536, 1 << 29, 1 << 30, Integer.MAX_VALUE}) {
            due("index " + index, withAllStates().number(index), MISSING);
        }
        for (int index : new int[] {-1, -2, -16, -65536, -(1 << 30), Integer.MIN_VALUE}) {
            due("index " + index, withAllStates().number(index), INVALID);
        }
    }

    private static void blockAt() {
        section("Promise 15: blockAt");
        sentence("`int blockAt(int state, int place)`: Returns the block of a state at a place.");
        SharedStates x = withGaps();
        dueRow("blockAt(0)", x, (s, place) -> s.blockAt(0, place), 0, 0, 0, 0, 0, 0, INVALID);
        dueRow("blockAt(4)", x, (s, place) -> s.blockAt(4, place), 0, 0, 0, 0, 0, 4, INVALID);
        dueRow("blockAt(5)", x, (s, place) -> s.blockAt(5, place), 1, 3, 2, 0, 0, 0, INVALID);
        sentence(STATE);
        dueOnly("blockAt", GAPS, (s, n) -> s.blockAt(n, 0), STATES);
        sentence("`place`: 0 to 5");
        dueOnly("blockAt", GAPS, (s, n) -> s.blockAt(3, n), range(0, 5));
        sentence("Returns the number of the block; INVALID_ARGUMENT if an argument is out of range.");
        due("the lowest number", new SharedStates().blockAt(0, 5), 0);
        due("the highest number", withAllBlocks().blockAt(7, 2), 39);
        due("both out of range", x.blockAt(2, 6), INVALID);
        due("the last state's next place", x.blockAt(5, 6), INVALID);
        due("the first state's place before", x.blockAt(1, -6), INVALID);
    }

    private static void blockOf() {
        section("Promise 16: blockOf");
        sentence("`int blockOf(int block, int what)`: Returns something of a block.");
        SharedStates x = withGaps();
        dueRow("blockOf(0)", x, (s, what) -> s.blockOf(0, what), 23, 5, 0, 0, MISSING, INVALID);
        dueRow("blockOf(1)", x, (s, what) -> s.blockOf(1, what), 3, 3, 1, 1, MISSING, INVALID);
        dueRow("blockOf(2)", x, (s, what) -> s.blockOf(2, what), 1, 1, 5, 1, MISSING, INVALID);
        dueRow("blockOf(4)", x, (s, what) -> s.blockOf(4, what), 1, 1, 4, 128, MISSING, INVALID);
        sentence("`block`: number of the block");
        for (int i = 0; i < 4; i++) {
            int what = i;
            dueOnly("blockOf(.., " + what + ")", GAPS, (s, n) -> s.blockOf(n, what), BLOCKS);
        }
        dueOnly("blockOf(.., 4)", GAPS, (s, n) -> s.blockOf(n, 4), BLOCKS);
        dueOnly("blockOf of 40 blocks", TestKit::withAllBlocks, (s, n) -> s.blockOf(n, 0), range(0, 39));
        sentence("`what`: 0: how many places of all states have it");
        SharedStates y = withAllStates();
        due("the places of 16 states but for 15", y.blockOf(0, 0), 81);
        due("one", y.blockOf(15, 0), 1);
        due("one, of the last of 40", withAllBlocks().blockOf(39, 0), 1);
        sentence("1: how many states have it");
        due("all", y.blockOf(0, 1), 16);
        due("one", y.blockOf(15, 1), 1);
        SharedStates z = new SharedStates();
        due("one, at six places", z.blockOf(0, 1), 1);
        z.fill(0, 0, 48, 1);
        due("one, as the next has it at no place", z.blockOf(0, 1), 1);
        sentence("2: the sum of its cells");
        due("the lowest", z.blockOf(0, 2), 0);
        z.fill(0, 40, 8, 999);
        due("the highest", z.blockOf(2, 2), 8 * 999);
        z.write(0, 40, 0);
        due("without the first cell", z.blockOf(3, 2), 7 * 999);
        sentence("3: the cells of it that are not 0, as a set");
        due("none", z.blockOf(0, 3), 0);
        due("all", z.blockOf(2, 3), 255);
        due("all but the first", z.blockOf(3, 3), 254);
        z.write(0, 47, 0);
        due("all but the first and the last", z.blockOf(4, 3), 126);
        likeBlocks();
        sentence("Returns the number; INVALID_ARGUMENT if an argument is out of range; NOT_FOUND for 4 if there is none.");
        dueOnly("blockOf(0, ..)", NEW, (s, n) -> s.blockOf(0, n), range(0, 4));
        dueOnly("blockOf(4, ..)", GAPS, (s, n) -> s.blockOf(4, n), range(0, 4));
        due("4, if there is none", new SharedStates().blockOf(0, 4), MISSING);
        due("both out of range", x.blockOf(5, 5), INVALID);
    }

    private static void likeBlocks() {
        sentence("4: the lowest number of another block that is like it");
        SharedStates x = new SharedStates();
        x.set(0, 0);
        x.fill(0, 0, 24, 3);
        x.fill(0, 0, 16, 0);
        due("of the lowest, the second", x.blockOf(1, 4), 2);
        due("of the second, the lowest", x.blockOf(2, 4), 1);
        due("of the third, the lowest", x.blockOf(3, 4), 1);
        due("of block 0, a later one", x.blockOf(0, 4), 4);
        due("of a later one, block 0", x.blockOf(5, 4), 0);
        x.write(0, 40, 3);
        due("of one that is like in one cell alone", x.blockOf(6, 4), MISSING);
        x.share();
        due("none, as they are shared", x.blockOf(1, 4), MISSING);
        due("of the last of 40", withAllBlocks().blockOf(39, 4), 37);
        SharedStates z = withManyBlocks();
        z.write(0, 0, 7);
        z.write(0, 0, 8);
        z.write(0, 0, 7);
        due("of one whose like one is the last of 40", z.blockOf(37, 4), 39);
        SharedStates y = new SharedStates();
        y.set(0, 0);
        y.write(0, 0, 1);
        y.write(0, 0, 0);
        due("of block 0", y.blockOf(0, 4), 2);
        y.back(0);
        y.forget(2);
        due("none, as that is gone", y.blockOf(0, 4), MISSING);
    }

    private static void head() {
        section("Promise 17: head");
        sentence("`int head(int branch)`: Returns the state at which a branch stands.");
        SharedStates x = withGaps();
        dueRow("head", x, SharedStates::head, 5, INVALID, 4, 0, INVALID);
        x.back(2);
        x.write(3, 0, 9);
        x.branch(1);
        dueRow("head", x, SharedStates::head, 5, 1, 0, 6, INVALID);
        sentence(BRANCH);
        dueOnly("head", GAPS, (s, n) -> s.head(n), BRANCHES);
        dueOnly("head of four", TestKit::withAllBranches, (s, n) -> s.head(n), range(0, 3));
        sentence("Returns the state; INVALID_ARGUMENT.");
        due("the lowest state", new SharedStates().head(0), 0);
        due("a branch that was left", and(GAPS, s -> s.leave(0)).get().head(0), INVALID);
        due("a branch that is not yet there", new SharedStates().head(1), INVALID);
        due("16 states", withAllStates().head(0), 15);
    }

    // ---- unlike, like, before

    private static void unlike() {
        section("Promise 18: unlike");
        sentence("`int unlike(int one, int other, int what)`: Compares two states.");
        SharedStates x = withGaps();
        dueRow("unlike(4, 5)", x, (s, what) -> s.unlike(4, 5, what), 4, 0, 4, 0, INVALID);
        dueRow("unlike(5, 4)", x, (s, what) -> s.unlike(5, 4, what), 4, 0, 4, 0, INVALID);
        dueRow("unlike(3, 5)", x, (s, what) -> s.unlike(3, 5, what), 1, 16, 1, 3, INVALID);
        dueRow("unlike(5, 5)", x, (s, what) -> s.unlike(5, 5, what), 0, MISSING, 0, 5, INVALID);
        sentence("`one`: number of a state");
        dueOnly("unlike", GAPS, (s, n) -> s.unlike(n, 0, 0), STATES);
        sentence("`other`: number of a state");
        dueOnly("unlike", GAPS, (s, n) -> s.unlike(0, n, 0), STATES);
        sentence("`what`: 0: how many cells are unlike");
        SharedStates y = new SharedStates();
        y.fill(0, 0, 48, 1);
        y.write(0, 47, 0);
        y.set(0, 0);
        y.fill(0, 0, 48, 0);
        due("all", y.unlike(0, 1, 0), 48);
        due("all but one", y.unlike(0, 2, 0), 47);
        due("one", y.unlike(2, 1, 0), 1);
        due("none, with other blocks", y.unlike(0, 3, 0), 0);
        due("none, with itself", y.unlike(1, 1, 0), 0);
        sentence("1: the first such cell");
        due("the first of all", y.unlike(0, 1, 1), 0);
        due("the last of all", y.unlike(1, 2, 1), 47);
        due("none, with other blocks", y.unlike(3, 0, 1), MISSING);
        due("in the midst", x.unlike(3, 1, 1), 8);
        sentence("2: at how many places they have blocks with unlike numbers");
        due("all", y.unlike(0, 1, 2), 6);
        due("one", y.unlike(1, 2, 2), 1);
        due("all, with like cells", y.unlike(0, 3, 2), 6);
        due("none, with itself", y.unlike(3, 3, 2), 0);
        y.share();
        due("none, as they are shared", y.unlike(0, 3, 2), 0);
        sentence("3: the common state");
        due("with state 0", x.unlike(5, 0, 3), 0);
        due("of two branches", x.unlike(4, 3, 3), 0);
        due("with an ancestor", x.unlike(5, 1, 3), 1);
        due("with a descendant", x.unlike(1, 5, 3), 1);
        due("with itself", x.unlike(4, 4, 3), 4);
        sentence("Returns the number; INVALID_ARGUMENT if an argument is out of range; NOT_FOUND for 1 if there is none.");
        dueOnly("unlike(0, 0, ..)", NEW, (s, n) -> s.unlike(0, 0, n), range(0, 3));
        dueOnly("unlike(4, 5, ..)", GAPS, (s, n) -> s.unlike(4, 5, n), range(0, 3));
        due("1, if there is none", new SharedStates().unlike(0, 0, 1), MISSING);
        due("all out of range", x.unlike(2, 6, 4), INVALID);
        due("no state with itself", x.unlike(2, 2, 1), INVALID);
    }

    private static void like() {
        section("Promise 19: like");
        sentence("`int like(int state)`: Finds a state with the same values in all cells.");
        SharedStates x = new SharedStates();
        x.fill(0, 1, 46, 7);
        x.write(0, 0, 7);
        x.write(0, 0, 0);
        x.write(0, 47, 7);
        due("all but the first cell", x.like(2), MISSING);
        due("all cells", x.like(1), 3);
        due("all but the last cell", x.like(4), MISSING);
        x.set(0, 0);
        x.fill(0, 0, 48, 0);
        due("by other blocks", x.like(5), 0);
        sentence(STATE);
        dueOnly("like", GAPS, (s, n) -> s.like(n), STATES);
        sentence("Returns the lowest other one; INVALID_ARGUMENT; NOT_FOUND if there is none.");
        SharedStates y = new SharedStates();
        due("not itself", y.like(0), MISSING);
        y.write(0, 0, 0);
        y.write(0, 0, 1);
        y.write(0, 0, 0);
        due("of the lowest the next", y.like(0), 1);
        due("of the next the lowest", y.like(1), 0);
        due("of the last the lowest", y.like(3), 0);
        due("none", y.like(2), MISSING);
        due("a state that is not there", y.like(4), INVALID);
        y.forget(1);
        due("as that is forgotten", y.like(0), 3);
        due("a state that is forgotten", y.like(1), INVALID);
    }

    private static void before() {
        section("Promise 20: before");
        sentence("`int before(int state, int cell)`: Finds the latest state on the way from a state to state 0 by parents "
            + "(with itself) in which a cell had another value than in that state.");
        SharedStates x = new SharedStates();
        int[] values = {5, 5, 6, 0, 5, 5};
        for (int value : values) {
            x.write(0, 47, value);
        }
        dueRow("before", x, (s, state) -> s.before(state, 47), MISSING, 0, 0, 2, 3, 4, 4, INVALID);
        x.branch(2);
        x.write(1, 46, 1);
        due("not by the other branch", x.before(7, 47), 0);
        due("its parent", x.before(7, 46), 2);
        x.forget(4);
        due("as the latest is forgotten", x.before(6, 47), 3);
        x.forget(3);
        due("as the next is forgotten", x.before(6, 47), 0);
        sentence(STATE);
        dueOnly("before", GAPS, (s, n) -> s.before(n, 0), STATES);
        sentence(CELL);
        dueOnly("before", GAPS, (s, n) -> s.before(5, n), range(0, 47));
        sentence("Returns the state; INVALID_ARGUMENT if an argument is out of range; NOT_FOUND if there is none.");
        due("state 0", x.before(1, 47), 0);
        due("none before state 0", x.before(0, 47), MISSING);
        due("none, as the cell was never written", x.before(6, 0), MISSING);
        due("none, as it was 0 and is 0", and(NEW, s -> s.write(0, 0, 0)).get().before(1, 0), MISSING);
        due("both out of range", x.before(3, 48), INVALID);
        SharedStates y = withAllStates();
        due("the one before, of 16", y.before(15, 0), 14);
        due("none, of 16", y.before(15, 1), MISSING);
        SharedStates z = new SharedStates();
        z.write(0, 47, 1);
        for (int i = 2; i < 16; i++) {
            z.write(0, 0, i);
        }
        due("state 0, 15 steps away", z.before(15, 47), 0);
    }

    // ---- conflicts, frees, heaviest

    private static void conflicts() {
        section("Promise 21: conflicts");
        sentence("`int conflicts(int branch, int state)`: Tells how many conflicts there would be if a state was merged "
            + "into a branch.");
        SharedStates x = withTwoBranches();
        due("another value", x.conflicts(0, 3), 1);
        due("the same value", x.conflicts(0, 2), 0);
        due("the other way", x.conflicts(1, 1), 1);
        due("nothing is merged", x.count(0), 4);
        due("nor counted", x.count(8), 0);
        due("the branch stays", x.head(0), 1);
        due("with 16 states", withAllStates().conflicts(0, 3), 0);
        SharedStates y = withAllBlocks();
        y.branch(0);
        due("with 40 blocks", y.conflicts(1, 7), 0);
        sentence(BRANCH);
        dueOnly("conflicts", GAPS, (s, n) -> s.conflicts(n, 0), BRANCHES);
        sentence(STATE);
        dueOnly("conflicts", GAPS, (s, n) -> s.conflicts(0, n), STATES);
        sentence("Returns how many; INVALID_ARGUMENT.");
        due("none, with itself", new SharedStates().conflicts(0, 0), 0);
        SharedStates z = new SharedStates();
        z.branch(0);
        z.fill(0, 0, 48, 1);
        z.fill(1, 0, 48, 2);
        due("all 48", z.conflicts(0, 2), 48);
        z.fill(1, 0, 24, 0);
        due("half of them", z.conflicts(1, 1), 24);
        due("both out of range", z.conflicts(2, 4), INVALID);
    }

    private static void frees() {
        section("Promise 22: frees");
        sentence("`int frees(int state)`: Tells how many blocks would be gone if a state was forgotten.");
        for (int state : new int[] {1, 2, 3, 4, 5, 6}) {
            SharedStates x = withAllBlocks();
            int freed = x.frees(state);
            due("nothing is gone", x.count(2), 40);
            due("as many as are gone by forget", x.forget(state), freed);
            due("blocks", x.count(2), 40 - freed);
        }
        sentence(STATE);
        dueOnly("frees", GAPS, (s, n) -> s.frees(n), STATES);
        sentence("Returns how many; INVALID_ARGUMENT; NOT_POSSIBLE if it cannot be forgotten.");
        SharedStates y = withAllBlocks();
        due("six", y.frees(1), 6);
        due("three, as the next has the others", y.frees(6), 3);
        due("where a branch stands", y.frees(7), IMPOSSIBLE);
        due("state 0", y.frees(0), IMPOSSIBLE);
        due("no state", y.frees(8), INVALID);
        y.share();
        due("one at six places", y.frees(1), 1);
        due("none", y.frees(6), 0);
        due("six, with the last of 40 blocks", and(TestKit::withAllBlocks, x -> {
            x.forget(6);
            x.back(0);
        }).get().frees(7), 6);
        due("state 0 of a new object", new SharedStates().frees(0), IMPOSSIBLE);
    }

    private static void heaviest() {
        section("Promise 23: heaviest");
        sentence("`int heaviest(int what)`: Finds the state that could be forgotten and would free most blocks.");
        SharedStates x = withManyBlocks();
        x.branch(1);
        x.branch(2);
        due("not where a branch stands", x.heaviest(0), 3);
        x.write(2, 0, 0);
        due("not what has most blocks, but frees most", x.heaviest(0), 3);
        x.share();
        due("as all blocks are shared", x.heaviest(0), 3);
        due("one at six places", x.heaviest(1), 1);
        sentence("`what`: 0: the state, of several the lowest");
        SharedStates y = new SharedStates();
        y.write(0, 0, 0);
        y.write(0, 0, 0);
        y.write(0, 0, 1);
        due("of those that free none the lowest", y.heaviest(0), 1);
        y.write(0, 0, 2);
        y.write(0, 0, 3);
        due("of those that free one the lowest", y.heaviest(0), 3);
        y.fill(0, 0, 16, 4);
        y.fill(0, 0, 9, 5);
        y.fill(0, 7, 2, 9);
        due("that frees two", y.heaviest(0), 7);
        sentence("1: how many blocks");
        due("two", y.heaviest(1), 2);
        due("six", withAllBlocks().heaviest(1), 6);
        SharedStates z = new SharedStates();
        z.write(0, 0, 0);
        z.write(0, 0, 0);
        due("none", z.heaviest(1), 0);
        sentence("Returns the number; INVALID_ARGUMENT if what is out of range; NOT_FOUND if none could be forgotten.");
        dueOnly("heaviest", GAPS, (s, n) -> s.heaviest(n), 0, 1);
        dueOnly("heaviest of a new object", NEW, (s, n) -> s.heaviest(n), 0, 1);
        dueRow("heaviest of a new object", new SharedStates(), SharedStates::heaviest, MISSING, MISSING, INVALID);
        SharedStates w = new SharedStates();
        w.write(0, 0, 1);
        dueRow("heaviest, as a branch stands there", w, SharedStates::heaviest, MISSING, MISSING, INVALID);
        w.back(0);
        dueRow("heaviest, as it stands at state 0", w, SharedStates::heaviest, 1, 1, INVALID);
    }

    // ---- count

    private static void count() {
        section("Promise 24: count");
        sentence("`int count(int what)`: Returns a number.");
        dueRow("count", withGaps(), SharedStates::count, 5, 3, 5, 30, 0, 6, 6, 1, 0, 4, 0, INVALID);
        due("count(20)", withGaps().count(20), 1);
        countWhatThereIs();
        countWhatWas();
        sentence("9: changes that can be undone");
        SharedStates x = new SharedStates();
        due("none", x.count(9), 0);
        for (int i = 1; i <= 6; i++) {
            x.set(0, 1);
            due("after " + i, x.count(9), Math.min(i, 4));
        }
        x.undo();
        due("after undo", x.count(9), 3);
        sentence("10: the length of the text");
        SharedStates y = new SharedStates();
        due("empty", y.count(10), 0);
        for (int i = 1; i <= 62; i++) {
            y.type('b');
            due("after " + i, y.count(10), Math.min(i, 60));
        }
        y.clearText();
        due("cleared", y.count(10), 0);
        sentence("20: the setting 0");
        due("at first", y.count(20), 1);
        y.set(0, 0);
        due("set to 0", y.count(20), 0);
        y.set(0, 1);
        due("set to 1", y.count(20), 1);
        sentence("Returns the number; INVALID_ARGUMENT if what is out of range.");
        dueOnly("count", NEW, (s, n) -> s.count(n), 0, 1, 2, 3, 4, 5, 6, 7, 8, 9, 10, 20);
        for (int what = 11; what < 100; what++) {
            check(what == 20 || y.count(what) == INVALID, "count(" + what + ") is none");
        }
    }

    private static void countWhatThereIs() {
        sentence("`what`: 0: states");
        due("one", new SharedStates().count(0), 1);
        due("16", withAllStates().count(0), 16);
        due("as one is forgotten", and(TestKit::withAllStates, x -> x.forget(1)).get().count(0), 15);
        sentence("1: branches");
        due("one", new SharedStates().count(1), 1);
        due("four", withAllBranches().count(1), 4);
        due("as one is left", and(TestKit::withAllBranches, x -> x.leave(0)).get().count(1), 3);
        sentence("2: blocks");
        due("one", new SharedStates().count(2), 1);
        due("40", withAllBlocks().count(2), 40);
        due("as some are gone", and(TestKit::withAllBlocks, x -> x.forget(3)).get().count(2), 34);
        sentence("3: places of all states together");
        due("six", new SharedStates().count(3), 6);
        due("96", withAllStates().count(3), 96);
        due("as one is forgotten", and(TestKit::withAllStates, x -> x.forget(1)).get().count(3), 90);
        sentence("4: blocks that would be gone by share()");
        due("none", new SharedStates().count(4), 0);
        due("none of 16 unlike ones", withAllStates().count(4), 0);
        SharedStates x = withAllBlocks();
        due("32 of 40", x.count(4), 32);
        due("nothing is gone", x.count(2), 40);
        due("as many as share tells", x.share(), 32);
        due("none then", x.count(4), 0);
    }

    private static void countWhatWas() {
        sentence("5: states so far (with state 0)");
        due("one", new SharedStates().count(5), 1);
        SharedStates x = withAllStates();
        due("16", x.count(5), 16);
        x.forget(2);
        due("as one is forgotten", x.count(5), 16);
        x.write(0, 0, 0);
        due("17", x.count(5), 17);
        x.write(0, 0, 0);
        due("as one more was refused", x.count(5), 17);
        sentence("6: blocks that were made so far (with the first one)");
        due("one", new SharedStates().count(6), 1);
        SharedStates y = withAllBlocks();
        due("40", y.count(6), 40);
        y.write(0, 47, 1);
        due("as one more was refused", y.count(6), 40);
        y.forget(3);
        due("as some are gone", y.count(6), 40);
        y.write(0, 47, 1);
        due("41", y.count(6), 41);
        y.set(0, 1);
        y.write(0, 46, 6);
        due("as no cell becomes different", y.count(6), 41);
        y.write(0, 47, 6);
        due("as one is taken", y.count(6), 41);
        sentence("7: blocks that were taken instead of being made so far");
        due("one", y.count(7), 1);
        due("none", new SharedStates().count(7), 0);
        SharedStates z = new SharedStates();
        z.write(0, 0, 0);
        due("none, as no cell becomes different", z.count(7), 0);
        z.fill(0, 0, 48, 3);
        due("five, as the first is made", z.count(7), 5);
        z.copy(0, 0, 0, 0, 48);
        due("six more", z.count(7), 11);
        z.write(0, 0, 1000);
        due("as one was refused", z.count(7), 11);
        sentence("8: conflicts so far");
        due("none", z.count(8), 0);
        SharedStates w = withTwoBranches();
        w.conflicts(0, 3);
        due("none, as nothing is merged", w.count(8), 0);
        w.merge(0, 3);
        due("one", w.count(8), 1);
        w.merge(0, 3);
        due("two", w.count(8), 2);
        w.merge(0, 0);
        due("two, as there is none", w.count(8), 2);
    }

    public static void main(String[] args) {
        read();
        stateOf();
        number();
        blockAt();
        blockOf();
        head();
        unlike();
        like();
        before();
        conflicts();
        frees();
        heaviest();
        count();
        finish("the answers hold");
    }
}
