import java.util.function.Supplier;

/** The sentences of the promises 1 to 11, a new object and the changes, each with a test of its own. */
public final class ChangesTest extends TestKit {
    private static final String STATE = "`state`: number of the state";
    private static final String BRANCH = "`branch`: number of the branch";
    private static final String VALUE = "`value`: 0 to 999";
    private static final String NEW_STATE =
        "Returns the number of the new state; INVALID_ARGUMENT if an argument is out of range; LIMIT_REACHED.";
    private static final int[] STATES = {0, 1, 3, 4, 5};
    private static final int[] BRANCHES = {0, 2, 3};
    private static final Supplier<SharedStates> NEW = SharedStates::new;
    private static final Supplier<SharedStates> GAPS = TestKit::withGaps;

    private static void newObject() {
        section("Promise 1: A new object");
        sentence("`SharedStates()`: Creates a state 0 with a branch 0.");
        SharedStates x = new SharedStates();
        dueRow("count", x, SharedStates::count, 1, 1, 1, 6, 0, 1, 1, 0, 0, 0, 0, INVALID);
        due("the setting 0", x.count(20), 1);
        due("number(0)", x.number(0), 0);
        due("number(1)", x.number(1), MISSING);
        due("head(0)", x.head(0), 0);
        due("head(1)", x.head(1), INVALID);
        due("undo()", x.undo(), IMPOSSIBLE);
        due("fault(0)", x.fault(0), MISSING);
        x.write(0, 0, 1);
        SharedStates y = new SharedStates();
        due("another object knows nothing of it", y.count(0), 1);
        due("nor of its cells", y.read(0, 0), 0);
    }

    // ---- write

    private static void write() {
        section("Promise 2: write");
        sentence("`int write(int branch, int cell, int value)`: Writes a value into a cell.");
        SharedStates x = new SharedStates();
        due("the first cell, the highest value", x.write(0, 0, 999), 1);
        due("the last cell, the lowest value but 0", x.write(0, 47, 1), 2);
        due("0 over another value", x.write(0, 0, 0), 3);
        due("the first cell of state 1", x.read(1, 0), 999);
        due("the last cell of state 1", x.read(1, 47), 0);
        due("the first cell of state 2", x.read(2, 0), 999);
        due("the last cell of state 2", x.read(2, 47), 1);
        due("the first cell of state 3", x.read(3, 0), 0);
        due("the sum of state 3", x.stateOf(3, 3), 1);
        sentence(BRANCH);
        dueOnly("write", GAPS, (s, n) -> s.write(n, 0, 7), BRANCHES);
        dueOnly("write", NEW, (s, n) -> s.write(n, 0, 0), 0);
        sentence("`cell`: 0 to 47");
        dueOnly("write", NEW, (s, n) -> s.write(0, n, 7), range(0, 47));
        sentence(VALUE);
        dueOnly("write", NEW, (s, n) -> s.write(0, 9, n), range(0, 999));
        for (int value = 0; value <= 999; value++) {
            SharedStates y = new SharedStates();
            y.write(0, 20, value);
            due("what was written", y.read(1, 20), value);
        }
        sentence(NEW_STATE);
        SharedStates z = withGaps();
        due("the number, as 2 was forgotten", z.write(2, 0, 1), 6);
        due("the next one", z.write(0, 0, 2), 7);
        due("a branch, a cell and a value out of range", z.write(1, 48, 1000), INVALID);
        due("the number after an error", z.write(0, 0, 2), 8);
        due("a 17th state", withAllStates().write(0, 47, 1), LIMIT);
        due("a 41st block", withAllBlocks().write(0, 47, 1), LIMIT);
    }

    // ---- fill

    private static void fill() {
        section("Promise 3: fill");
        sentence("`int fill(int branch, int cell, int many, int value)`: Writes a value into cells one behind another.");
        int[][] parts = {{0, 48}, {0, 1}, {47, 1}, {0, 8}, {40, 8}, {7, 2}, {8, 8}, {15, 10}, {1, 46}};
        for (int[] part : parts) {
            SharedStates x = new SharedStates();
            due("fill", x.fill(0, part[0], part[1], 999), 1);
            for (int cell = 0; cell < 48; cell++) {
                boolean isFilled = cell >= part[0] && cell < part[0] + part[1];
                due("the cell " + cell + " of " + part[1] + " from " + part[0], x.read(1, cell), isFilled ? 999 : 0);
            }
        }
        sentence(BRANCH);
        dueOnly("fill", GAPS, (s, n) -> s.fill(n, 0, 48, 7), BRANCHES);
        sentence("`cell`: 0 to 47: the first one");
        dueOnly("fill", NEW, (s, n) -> s.fill(0, n, 1, 7), range(0, 47));
        sentence("`many`: 1 to 48; the last one has to be 47 at most");
        for (int cell = 0; cell < 48; cell++) {
            int first = cell;
            dueOnly("fill from " + cell, NEW, (s, n) -> s.fill(0, first, n, 7), range(1, 48 - cell));
        }
        sentence(VALUE);
        dueOnly("fill", NEW, (s, n) -> s.fill(0, 0, 48, n), range(0, 999));
        sentence(NEW_STATE);
        SharedStates y = withGaps();
        due("the number, as 2 was forgotten", y.fill(2, 0, 48, 1), 6);
        due("all arguments out of range", y.fill(1, 48, 0, 1000), INVALID);
        due("the number after an error", y.fill(0, 0, 48, 1), 7);
        due("a 17th state", withAllStates().fill(0, 0, 1, 15), LIMIT);
        due("a 41st block", withAllBlocks().fill(0, 24, 1, 7), LIMIT);
        due("a 41st to 46th block", withAllBlocks().fill(0, 0, 48, 7), LIMIT);
    }

    // ---- copy

    private static void copy() {
        section("Promise 4: copy");
        sentence("`int copy(int branch, int state, int from, int to, int many)`: Copies cells of a state one behind "
            + "another into a branch. (All are read ahead of writing.)");
        copiesAreReadAhead();
        sentence(BRANCH);
        dueOnly("copy", GAPS, (s, n) -> s.copy(n, 0, 0, 0, 48), BRANCHES);
        sentence(STATE);
        dueOnly("copy", GAPS, (s, n) -> s.copy(0, n, 0, 0, 48), STATES);
        sentence("`from`: 0 to 47: the first cell there");
        dueOnly("copy", GAPS, (s, n) -> s.copy(0, 3, n, 0, 1), range(0, 47));
        sentence("`to`: 0 to 47: the first cell here");
        dueOnly("copy", GAPS, (s, n) -> s.copy(0, 3, 0, n, 1), range(0, 47));
        sentence("`many`: 1 to 48; the last cells have to be 47 at most");
        for (int cell = 0; cell < 48; cell++) {
            int first = cell;
            dueOnly("copy from " + cell, NEW, (s, n) -> s.copy(0, 0, first, 0, n), range(1, 48 - cell));
            dueOnly("copy to " + cell, NEW, (s, n) -> s.copy(0, 0, 0, first, n), range(1, 48 - cell));
        }
        dueOnly("copy from 40 to 41", NEW, (s, n) -> s.copy(0, 0, 40, 41, n), range(1, 7));
        dueOnly("copy from 47 to 47", NEW, (s, n) -> s.copy(0, 0, 47, 47, n), 1);
        sentence(NEW_STATE);
        SharedStates x = withGaps();
        due("the number, as 2 was forgotten", x.copy(2, 5, 0, 0, 48), 6);
        due("all arguments out of range", x.copy(1, 2, 48, -1, 0), INVALID);
        due("the number after an error", x.copy(0, 6, 0, 0, 48), 7);
        due("a 17th state", withAllStates().copy(0, 15, 0, 0, 48), LIMIT);
        due("a 41st block", withAllBlocks().copy(0, 1, 0, 47, 1), LIMIT);
    }

    private static void copiesAreReadAhead() {
        int[][] parts = {{0, 1, 10}, {1, 0, 10}, {0, 0, 48}, {0, 8, 8}, {5, 6, 42}, {6, 5, 42}, {0, 47, 1}, {47, 0, 1}, {3, 40, 8}};
        for (int[] part : parts) {
            SharedStates x = new SharedStates();
            x.fill(0, 0, 48, 100);
            for (int cell = 0; cell < 10; cell++) {
                x.write(0, cell, cell + 1);
            }
            int[] want = new int[48];
            for (int cell = 0; cell < 48; cell++) {
                boolean isCopied = cell >= part[1] && cell < part[1] + part[2];
                int source = isCopied ? cell - part[1] + part[0] : cell;
                want[cell] = source < 10 ? source + 1 : 100;
            }
            due("copy", x.copy(0, 11, part[0], part[1], part[2]), 12);
            for (int cell = 0; cell < 48; cell++) {
                due("the cell " + cell + " of " + part[2] + " from " + part[0] + " to " + part[1], x.read(12, cell), want[cell]);
            }
        }
        SharedStates y = withGaps();
        due("a copy of a state that is no ancestor", y.copy(0, 4, 46, 7, 2), 6);
        due("the cell from there", y.read(6, 8), 4);
        due("a cell that stays", y.read(6, 16), 5);
    }

    // ---- merge

    private static void merge() {
        section("Promise 5: merge");
        sentence("`int merge(int branch, int state)`: Merges a state into a branch.");
        SharedStates x = withTwoBranches();
        due("merge", x.merge(1, 1), 1);
        dueRow("the cell", x, (s, cell) -> s.read(4, cell), 5, 6, 5, 5, 0);
        due("the branch", x.head(1), 4);
        due("the other branch", x.head(0), 1);
        sentence(BRANCH);
        dueOnly("merge", GAPS, (s, n) -> s.merge(n, 4), BRANCHES);
        sentence(STATE);
        dueOnly("merge", GAPS, (s, n) -> s.merge(0, n), STATES);
        sentence("Returns how many cells are conflicts; INVALID_ARGUMENT; LIMIT_REACHED.");
        due("none, with itself", new SharedStates().merge(0, 0), 0);
        SharedStates y = new SharedStates();
        y.branch(0);
        y.fill(0, 0, 48, 1);
        y.fill(1, 0, 48, 2);
        y.fill(1, 0, 47, 1);
        due("all 48", y.merge(0, 2), 48);
        due("but one", y.merge(1, 1), 1);
        due("a branch and a state out of range", y.merge(2, 6), INVALID);
        due("a 17th state", withAllStates().merge(0, 0), LIMIT);
        SharedStates z = withAllBlocks();
        z.branch(0);
        z.write(1, 0, 0);
        due("a 41st to 46th block", z.merge(1, 7), LIMIT);
        z.set(0, 1);
        due("none, and all blocks are taken", z.merge(1, 7), 0);
        dueRow("block at", z, (s, place) -> s.blockAt(9, place), 37, 37, 37, 31, 31, 31);
    }

    // ---- branch, leave, back

    private static void branch() {
        section("Promise 6: branch");
        sentence("`int branch(int state)`: Makes a branch that stands at a state; it gets the lowest name that no branch has.");
        SharedStates x = new SharedStates();
        x.write(0, 0, 1);
        due("the second", x.branch(0), 1);
        due("the third", x.branch(1), 2);
        due("the fourth", x.branch(0), 3);
        dueRow("head", x, SharedStates::head, 1, 0, 1, 0);
        x.leave(2);
        x.leave(0);
        due("the lowest name", x.branch(0), 0);
        due("the next one", x.branch(0), 2);
        dueRow("head", x, SharedStates::head, 0, 0, 0, 0);
        sentence(STATE);
        dueOnly("branch", GAPS, (s, n) -> s.branch(n), STATES);
        sentence("Returns its name; INVALID_ARGUMENT; LIMIT_REACHED if there are 4.");
        SharedStates y = withAllBranches();
        due("a fifth one", y.branch(0), LIMIT);
        due("a fifth one at no state", y.branch(1), INVALID);
        due("branches", y.count(1), 4);
        due("leave", y.leave(3), 3);
        due("a fourth one again", y.branch(0), 3);
    }

    private static void leave() {
        section("Promise 7: leave");
        sentence("`int leave(int branch)`: Gives a branch up.");
        SharedStates x = withGaps();
        due("leave", x.leave(2), 2);
        dueRow("head", x, SharedStates::head, 5, INVALID, INVALID, 0);
        due("its state stays", x.read(4, 47), 4);
        due("no branch stands there", x.stateOf(4, 7), 0);
        sentence(BRANCH);
        dueOnly("leave", GAPS, (s, n) -> s.leave(n), BRANCHES);
        dueOnly("leave of the only one", NEW, (s, n) -> s.leave(n), 0);
        sentence("Returns how many branches there are then; INVALID_ARGUMENT; NOT_POSSIBLE if it is the only one.");
        SharedStates y = withAllBranches();
        due("leave of four", y.leave(0), 3);
        due("leave of three", y.leave(3), 2);
        due("leave of what was left", y.leave(0), INVALID);
        due("leave of two", y.leave(1), 1);
        due("leave of one", y.leave(2), IMPOSSIBLE);
        due("leave of another", y.leave(1), INVALID);
        due("branches", y.count(1), 1);
    }

    private static void back() {
        section("Promise 8: back");
        sentence("`int back(int branch)`: Lets a branch stand at the parent of its state.");
        SharedStates x = withGaps();
        due("back", x.back(0), 3);
        due("head", x.head(0), 3);
        due("the state stays", x.read(5, 16), 5);
        x.forget(1);
        due("back over what is forgotten", x.back(0), 0);
        due("head", x.head(0), 0);
        sentence(BRANCH);
        dueOnly("back", GAPS, (s, n) -> s.back(n), BRANCHES);
        sentence("Returns the number of that; INVALID_ARGUMENT; NOT_POSSIBLE if it stands at state 0.");
        SharedStates y = withAllStates();
        for (int state = 14; state >= 0; state--) {
            due("back", y.back(0), state);
        }
        due("back from state 0", y.back(0), IMPOSSIBLE);
        due("back of no branch", y.back(1), INVALID);
        due("back of a new object", new SharedStates().back(0), IMPOSSIBLE);
    }

    // ---- forget, share, set

    private static void forget() {
        section("Promise 9: forget");
        sentence("`int forget(int state)`: Forgets a state.");
        SharedStates x = withGaps();
        due("forget", x.forget(3), 0);
        due("the state", x.read(3, 0), INVALID);
        due("states", x.count(0), 4);
        due("the state behind it", x.number(2), 4);
        due("its cells", x.read(4, 47), 4);
        due("its child's parent", x.stateOf(5, 0), 1);
        sentence(STATE);
        dueOnly("forget", GAPS, (s, n) -> s.forget(n), STATES);
        sentence("Returns how many blocks are gone by that; INVALID_ARGUMENT; NOT_POSSIBLE if it cannot be forgotten.");
        SharedStates y = withAllBlocks();
        due("six", y.forget(2), 6);
        due("three, as the next has the others", y.forget(6), 3);
        due("a state that is gone", y.forget(6), INVALID);
        due("where a branch stands", y.forget(7), IMPOSSIBLE);
        due("state 0", y.forget(0), IMPOSSIBLE);
        due("blocks", y.count(2), 31);
        SharedStates z = new SharedStates();
        z.fill(0, 0, 48, 1);
        z.write(0, 0, 1);
        z.back(0);
        due("none, as the parent has it", z.forget(2), 0);
        z.back(0);
        due("one at six places", z.forget(1), 1);
    }

    private static void share() {
        section("Promise 10: share");
        sentence("`int share()`: Shares equal blocks: each block that is like one with a lower number is replaced by "
            + "that (the lowest), at all places of all states.");
        SharedStates x = withManyBlocks();
        x.fill(0, 0, 24, 0);
        due("share", x.share(), 33);
        int[] lowest = {0, 1, 7, 13, 19, 25, 31};
        for (int state = 0; state <= 6; state++) {
            for (int place = 0; place < 6; place++) {
                due("the block of " + state + " at " + place, x.blockAt(state, place), lowest[state]);
            }
        }
        dueRow("block at", x, (s, place) -> s.blockAt(7, place), 0, 0, 0, 31, 31, 31);
        due("places of block 0", x.blockOf(0, 0), 9);
        due("places of block 31", x.blockOf(31, 0), 9);
        due("the block 32", x.blockOf(32, 0), INVALID);
        due("the sum of state 6", x.stateOf(6, 3), 288);
        due("the lowest free number", x.write(0, 0, 7), 8);
        due("the block", x.blockAt(8, 0), 2);
        sentence("Returns how many blocks are gone by that.");
        due("none, of one block", new SharedStates().share(), 0);
        due("none, of 16 unlike ones", withAllStates().share(), 0);
        due("none a second time", x.share(), 0);
        due("a change all the same", x.count(9), 4);
        SharedStates y = withAllBlocks();
        due("of 40, as there are eight unlike ones", y.share(), 32);
        due("blocks", y.count(2), 8);
        due("more can be made then", y.fill(0, 0, 48, 8), 8);
    }

    private static void set() {
        section("Promise 11: set");
        sentence("`int set(int what, int value)`: Sets a setting.");
        SharedStates x = new SharedStates();
        x.set(0, 0);
        due("the setting", x.count(20), 0);
        x.fill(0, 0, 16, 1);
        due("blocks, as none is taken", x.count(2), 3);
        x.set(0, 1);
        due("the setting", x.count(20), 1);
        x.fill(0, 16, 16, 1);
        due("blocks, as one is taken", x.count(2), 3);
        sentence("`what`: 0");
        dueOnly("set", NEW, (s, n) -> s.set(n, 0), 0);
        sentence("`value`: 0 or 1");
        dueOnly("set", NEW, (s, n) -> s.set(0, n), 0, 1);
        sentence("Returns what it was; INVALID_ARGUMENT if an argument is out of range.");
        SharedStates y = new SharedStates();
        due("set to what it is", y.set(0, 1), 1);
        due("set to 0", y.set(0, 0), 1);
        due("both out of range", y.set(1, 2), INVALID);
        due("set to what it is", y.set(0, 0), 0);
        due("set to 1", y.set(0, 1), 0);
        due("set once more", y.set(0, 1), 1);
    }

    public static void main(String[] args) {
        newObject();
        write();
        fill();
        copy();
        merge();
        branch();
        leave();
        back();
        forget();
        share();
        set();
        finish("the changes hold");
    }
}
