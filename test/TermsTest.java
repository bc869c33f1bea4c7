import java.util.ArrayList;
import java.util.List;
import java.util.function.BiConsumer;
import java.util.function.Consumer;
import java.util.function.Supplier;

/** The sentences of the document's terms, each with a test of its own: all but "Texts", which TextsTest has. */
public final class TermsTest extends TestKit {
    private static final String[] PROMISES = {
        "A new object", "write", "fill", "copy", "merge", "branch", "leave", "back", "forget", "share", "set", "read",
        "stateOf", "number", "blockAt", "blockOf", "head", "unlike", "like", "before", "conflicts", "frees",
        "heaviest", "count", "undo", "type", "clearText", "fault", "play"};

    /** Each section belongs to one of the tests of sentences: a new one is told here. */
    private static void sections() {
        begin("sections");
        List<String> headings = new ArrayList<>(List.of("SharedStates", "What it is", "The public face", "Terms",
            "Merging", "Forgetting", "Settings", "Texts", "Changes and errors"));
        for (int i = 0; i < PROMISES.length; i++) {
            headings.add("Promise " + (i + 1) + ": " + PROMISES[i]);
        }
        headings.add("Not promised");
        List<String> found = new ArrayList<>(document().keySet());
        check(found.isEmpty() || found.equals(headings), "the sections are " + found);
    }

    // ---- What it is

    private static void whatItIs() {
        section("What it is");
        untested("A row of cells that keeps its past states by sharing blocks: states that are never changed, branches "
            + "taken from any of them, writes that make one or a few blocks anew, rows that are copied out of other "
            + "states, states that are merged by what both have in common, equal blocks that are shared, blocks that "
            + "are let go with their states, differences of states, equal states, where branches part, what "
            + "forgetting a state would free, and orders as texts with places, reasons and causes of faults.");
        sentence("An object is used for at most 512 calls after it has been made; what later calls answer is free.");
        SharedStates x = new SharedStates();
        for (int i = 1; i <= 127; i++) {
            due("write, call " + (4 * i - 3), x.write(0, 0, i), i);
            due("back, call " + (4 * i - 2), x.back(0), 0);
            due("forget, call " + (4 * i - 1), x.forget(i), 1);
            due("count(9), call " + 4 * i, x.count(9), Math.min(4, 3 * i));
        }
        due("write, call 509", x.write(0, 47, 999), 128);
        due("undo, call 510", x.undo(), 3);
        due("read of what was undone, call 511", x.read(128, 47), INVALID);
        due("write, call 512", x.write(0, 47, 998), 128);
    }

    // ---- Terms

    private static void setsOfCells() {
        sentence("Sets of cells of a block are told as bits: bit k is for the cell k of the block.");
        due("no cell", new SharedStates().blockOf(0, 3), 0);
        for (int k = 0; k < 8; k++) {
            SharedStates x = new SharedStates();
            x.write(0, 16 + k, 1);
            due("the cell " + k, x.blockOf(1, 3), 1 << k);
        }
        SharedStates x = new SharedStates();
        x.fill(0, 40, 8, 999);
        due("all cells", x.blockOf(1, 3), 255);
    }

    private static void cellsOfAState() {
        sentence("A state has 48 cells, numbered from 0, each with a value (0 to 999), in 6 blocks of 8 cells each: "
            + "the block at the place k has the cells 8 * k to 8 * k + 7.");
        for (int cell = 0; cell < 48; cell++) {
            SharedStates x = new SharedStates();
            x.write(0, cell, 999);
            for (int place = 0; place < 6; place++) {
                boolean isHere = 8 * place <= cell && cell <= 8 * place + 7;
                due("the block at " + place + ", as the cell " + cell + " is written", x.blockAt(1, place), isHere ? 1 : 0);
            }
            for (int other = 0; other < 48; other++) {
                due("the cell " + other + ", as " + cell + " is written", x.read(1, other), other == cell ? 999 : 0);
            }
        }
        SharedStates x = new SharedStates();
        due("a cell below", x.read(0, -1), INVALID);
        due("a cell above", x.read(0, 48), INVALID);
        due("a value below", x.write(0, 0, -1), INVALID);
        due("a value above", x.write(0, 0, 1000), INVALID);
        due("a place below", x.blockAt(0, -1), INVALID);
        due("a place above", x.blockAt(0, 6), INVALID);
    }

    private static void blocksAreNeverChanged() {
        sentence("A block is never changed; the same block can be at several places of several states.");
        SharedStates x = new SharedStates();
        x.fill(0, 0, 48, 5);
        x.write(0, 0, 6);
        x.copy(0, 0, 0, 8, 8);
        due("a cell of the older state", x.read(1, 0), 5);
        due("the sum of the older state", x.stateOf(1, 3), 240);
        due("the sum of the block", x.blockOf(1, 2), 40);
        due("places that have it", x.blockOf(1, 0), 6 + 5 + 4);
        due("states that have it", x.blockOf(1, 1), 3);
        SharedStates y = new SharedStates();
        for (int i = 1; i < 16; i++) {
            y.write(0, 0, 0);
        }
        due("all places of 16 states have the block 0", y.blockOf(0, 0), 96);
        due("all 16 states have it", y.blockOf(0, 1), 16);
    }

    private static void fortyBlocks() {
        sentence("There are at most 40 blocks; a block that is made gets the lowest number (from 0) that no block has; "
            + "a block that no state has at any place is gone at once.");
        SharedStates x = withManyBlocks();
        due("the 38th to the 40th block", x.fill(0, 0, 24, 9), 7);
        due("blocks", x.count(2), 40);
        due("the 40th block's number", x.blockAt(7, 2), 39);
        due("a 41st block", x.write(0, 47, 9), LIMIT);
        due("blocks", x.count(2), 40);
        due("forget(3)", x.forget(3), 6);
        due("forget(1)", x.forget(1), 6);
        due("blocks", x.count(2), 28);
        for (int block = 0; block < 41; block++) {
            boolean isGone = block >= 1 && block <= 6 || block >= 13 && block <= 18 || block == 40;
            check((x.blockOf(block, 0) == INVALID) == isGone, "the block " + block + " is there, or not");
        }
        due("the lowest numbers, over the gap", x.fill(0, 0, 48, 8), 8);
        dueRow("block at", x, (s, place) -> s.blockAt(8, place), 1, 2, 3, 4, 5, 6);
        due("the next ones, in the second gap", x.fill(0, 16, 16, 7), 9);
        dueRow("block at", x, (s, place) -> s.blockAt(9, place), 1, 2, 13, 14, 5, 6);
        SharedStates y = new SharedStates();
        y.write(0, 0, 1);
        y.write(0, 8, 1);
        y.write(0, 8, 2);
        y.back(0);
        due("a block of a state that no branch leads to is there", y.blockOf(2, 0), 1);
        due("forget(3)", y.forget(3), 1);
        due("gone at once", y.blockOf(2, 0), INVALID);
    }

    private static void sixteenStates() {
        sentence("There are at most 16 states; they are numbered from 0 in the order in which they were made "
            + "(no number comes again).");
        SharedStates x = new SharedStates();
        due("the first one", x.number(0), 0);
        for (int i = 1; i < 16; i++) {
            due("the state " + i, x.write(0, 0, 0), i);
        }
        due("states", x.count(0), 16);
        due("a 17th state", x.write(0, 0, 0), LIMIT);
        due("back(0)", x.back(0), 14);
        due("forget(15), the latest", x.forget(15), 0);
        due("not 15 again", x.write(0, 0, 0), 16);
        due("forget(1)", x.forget(1), 0);
        due("not 1 again", x.write(0, 0, 0), 17);
        due("the highest", x.number(15), 17);
        due("a 17th state", x.write(0, 0, 0), LIMIT);
    }

    private static void stateZero() {
        sentence("State 0 is there from the beginning, all its cells are 0 (by one block, block 0, at all places), "
            + "and it has no parent; each other state has a parent, an earlier state.");
        SharedStates x = new SharedStates();
        due("states", x.count(0), 1);
        due("the sum of its cells", x.stateOf(0, 3), 0);
        dueRow("block at", x, (s, place) -> s.blockAt(0, place), 0, 0, 0, 0, 0, 0);
        due("the places of the block 0", x.blockOf(0, 0), 6);
        due("blocks", x.count(2), 1);
        due("the parent of state 0", x.stateOf(0, 0), MISSING);
        due("back from state 0", x.back(0), IMPOSSIBLE);
        due("forgetting state 0", x.forget(0), IMPOSSIBLE);
        x.write(0, 0, 1);
        x.branch(0);
        x.write(1, 0, 2);
        x.write(0, 0, 3);
        x.forget(1);
        due("the parent of state 2", x.stateOf(2, 0), 0);
        due("the parent of state 3, whose parent was forgotten", x.stateOf(3, 0), 0);
    }

    private static void branchNames() {
        sentence("A branch is a name (0 to 3) that stands at a state; branch 0 is there from the beginning, at state 0.");
        SharedStates x = new SharedStates();
        dueRow("head", x, SharedStates::head, 0, INVALID, INVALID, INVALID, INVALID);
        due("branches", x.count(1), 1);
        due("a branch below", x.head(-1), INVALID);
        dueRow("a branch more", x, (s, number) -> s.branch(0), 1, 2, 3, LIMIT);
        dueRow("head", x, SharedStates::head, 0, 0, 0, 0, INVALID);
    }

    private static void writesMoveTheBranch() {
        sentence("A write to a branch makes a new state whose parent is the state at which the branch stands; "
            + "the branch stands at the new one then.");
        SharedStates x = withAllBranches();
        due("write", x.write(3, 0, 1), 1);
        due("fill", x.fill(3, 0, 48, 2), 2);
        due("copy", x.copy(3, 1, 0, 1, 1), 3);
        due("merge", x.merge(3, 1), 0);
        dueRow("head", x, SharedStates::head, 0, 0, 0, 4);
        dueRow("parent", x, (s, state) -> s.stateOf(state, 0), MISSING, 0, 1, 2, 3);
        due("write to another branch", x.write(0, 0, 1), 5);
        due("its parent", x.stateOf(5, 0), 0);
        due("back", x.back(3), 3);
        due("write from a past state", x.write(3, 0, 7), 6);
        due("its parent", x.stateOf(6, 0), 3);
    }

    private static void newBlocksWhereCellsBecomeDifferent() {
        sentence("The new state has the same blocks as its parent, but for the places at which cells become different; "
            + "there it has new blocks, made in the order of their places.");
        SharedStates x = new SharedStates();
        x.set(0, 0);
        due("fill over the edge of two blocks", x.fill(0, 15, 2, 5), 1);
        dueRow("block at", x, (s, place) -> s.blockAt(1, place), 0, 1, 2, 0, 0, 0);
        due("fill with what is there in part", x.fill(0, 14, 11, 5), 2);
        dueRow("block at", x, (s, place) -> s.blockAt(2, place), 0, 3, 4, 5, 0, 0);
        due("fill with what is there at a place", x.fill(0, 8, 16, 0), 3);
        due("fill again", x.fill(0, 0, 48, 0), 4);
        dueRow("block at", x, (s, place) -> s.blockAt(4, place), 0, 6, 7, 8, 0, 0);
        due("fill of all", x.fill(0, 0, 48, 9), 5);
        dueRow("block at", x, (s, place) -> s.blockAt(5, place), 9, 10, 11, 12, 13, 14);
        due("write of what is there", x.write(0, 47, 9), 6);
        dueRow("block at", x, (s, place) -> s.blockAt(6, place), 9, 10, 11, 12, 13, 14);
        due("copy", x.copy(0, 2, 8, 0, 48 - 8), 7);
        dueRow("block at", x, (s, place) -> s.blockAt(7, place), 15, 16, 17, 18, 19, 14);
        x.branch(4);
        due("merge", x.merge(1, 1), 0);
        dueRow("block at", x, (s, place) -> s.blockAt(8, place), 0, 6, 7, 8, 0, 0);
    }

    private static void writesThatMakeNothingDifferent() {
        sentence("(A write by which no cell becomes different makes a new state with the same blocks.)");
        for (int setting = 0; setting < 2; setting++) {
            SharedStates x = withAllBlocks();
            x.set(0, setting);
            due("write", x.write(0, 0, 9), 8);
            due("fill", x.fill(0, 24, 24, 6), 9);
            due("copy", x.copy(0, 7, 0, 8, 16), 10);
            due("merge", x.merge(0, 3), 0);
            for (int state = 8; state <= 11; state++) {
                due("places with other blocks", x.unlike(state, 7, 2), 0);
                due("the parent", x.stateOf(state, 0), state - 1);
            }
            due("blocks made", x.count(6), 40);
            due("blocks taken", x.count(7), 0);
        }
    }

    private static void likeBlocksAreTaken() {
        sentence("If setting 0 is 1, a block that would be like one that there is already (also one made at an earlier "
            + "place by the same write) is not made; that one is taken instead (of several like ones that with the "
            + "lowest number).");
        SharedStates x = new SharedStates();
        due("the same at an earlier place", x.fill(0, 6, 12, 5), 1);
        dueRow("block at", x, (s, place) -> s.blockAt(1, place), 1, 2, 3, 0, 0, 0);
        due("the same again, and what there is", x.fill(0, 16, 32, 5), 2);
        dueRow("block at", x, (s, place) -> s.blockAt(2, place), 1, 2, 2, 2, 2, 2);
        x.branch(0);
        due("what another branch has", x.write(1, 46, 5), 3);
        due("what another branch has", x.write(1, 47, 5), 4);
        dueRow("block at", x, (s, place) -> s.blockAt(4, place), 0, 0, 0, 0, 0, 1);
        due("blocks made", x.count(6), 5);
        due("blocks taken", x.count(7), 5);
        x.set(0, 0);
        due("with the setting 0 it is made", x.write(1, 47, 0), 5);
        due("the block", x.blockAt(5, 5), 5);
        due("with the setting 0 each place has its own", x.fill(1, 0, 48, 5), 6);
        dueRow("block at", x, (s, place) -> s.blockAt(6, place), 6, 7, 8, 9, 10, 11);
        x.set(0, 1);
        due("of several the lowest", x.copy(0, 6, 40, 0, 8), 7);
        dueRow("block at", x, (s, place) -> s.blockAt(7, place), 2, 2, 2, 2, 2, 2);
        SharedStates y = new SharedStates();
        y.write(0, 0, 1);
        y.back(0);
        y.forget(1);
        due("what is gone is made", y.write(0, 0, 1), 2);
        due("blocks made", y.count(6), 3);
        due("blocks taken", y.count(7), 0);
        SharedStates z = withAllBlocks();
        z.set(0, 1);
        due("with 40 blocks what there is can be taken", z.fill(0, 0, 48, 3), 8);
        dueRow("block at", z, (s, place) -> s.blockAt(8, place), 13, 13, 13, 13, 13, 13);
        due("with 40 blocks none can be made", z.write(0, 0, 4), LIMIT);
        theFirstAndTheLastBlockAreTaken();
    }

    private static void theFirstAndTheLastBlockAreTaken() {
        SharedStates x = new SharedStates();
        x.write(0, 0, 1);
        due("block 0 is taken", x.write(0, 0, 0), 2);
        due("the block", x.blockAt(2, 0), 0);
        due("blocks made", x.count(6), 2);
        due("blocks taken", x.count(7), 1);
        SharedStates y = withManyBlocks();
        y.write(0, 0, 7);
        y.write(0, 0, 8);
        y.write(0, 0, 9);
        y.back(0);
        y.set(0, 1);
        due("block 39 is taken", y.write(0, 0, 9), 10);
        due("the block", y.blockAt(10, 0), 39);
    }

    // ---- Merging

    private static void commonState() {
        sentence("The common state of two states is the latest one (by its number) that is both an ancestor, or one "
            + "itself, of the one, and of the other.");
        SharedStates x = withGaps();
        int[][] common = {
            {0, 0, 0}, {0, 5, 0}, {1, 1, 1}, {1, 3, 1}, {1, 5, 1}, {3, 5, 3}, {3, 4, 0}, {4, 4, 4}, {4, 5, 0}, {5, 5, 5}};
        for (int[] row : common) {
            due("the common state of " + row[0] + " and " + row[1], x.unlike(row[0], row[1], 3), row[2]);
            due("the common state of " + row[1] + " and " + row[0], x.unlike(row[1], row[0], 3), row[2]);
        }
        x.forget(1);
        x.forget(3);
        due("the common state, as those between are forgotten", x.unlike(4, 5, 3), 0);
        SharedStates y = new SharedStates();
        y.write(0, 0, 1);
        y.write(0, 0, 2);
        y.branch(2);
        y.write(1, 0, 3);
        y.write(0, 0, 4);
        y.merge(1, 4);
        due("where two part", y.unlike(4, 3, 3), 2);
        due("a merge makes no ancestor of what is merged", y.unlike(5, 4, 3), 2);
        y.forget(2);
        due("where two part, as that is forgotten", y.unlike(4, 3, 3), 1);
    }

    private static void mergedCells() {
        sentence("When a state is merged into a branch, the new state has in each cell: the value of the branch's "
            + "state, if the merged state has there what the common state has; otherwise that of the merged state, if "
            + "the branch's state has there what the common state has, or if both are the same; otherwise it is a "
            + "conflict: the value of the branch's state.");
        SharedStates x = new SharedStates();
        int[] was = {0, 1, 1, 1, 1, 1, 1};
        int[] here = {0, 1, 2, 1, 2, 2, 0};
        int[] there = {0, 1, 1, 3, 2, 3, 3};
        int[] due = {0, 1, 2, 3, 2, 2, 0};
        for (int i = 1; i < 7; i++) {
            x.write(0, 7 * i, was[i]);
        }
        x.branch(6);
        due("conflicts of a state with itself", x.conflicts(1, 6), 0);
        x.write(0, 14, 2);
        x.write(0, 28, 2);
        x.write(0, 35, 2);
        x.write(0, 42, 0);
        x.write(1, 21, 3);
        x.write(1, 28, 2);
        x.write(1, 35, 3);
        x.write(1, 42, 3);
        for (int i = 0; i < 7; i++) {
            due("the branch's cell " + 7 * i, x.read(10, 7 * i), here[i]);
            due("the merged state's cell " + 7 * i, x.read(14, 7 * i), there[i]);
        }
        due("conflicts", x.conflicts(0, 14), 2);
        due("merge", x.merge(0, 14), 2);
        for (int cell = 0; cell < 48; cell++) {
            due("the cell " + cell, x.read(15, cell), cell % 7 == 0 ? due[cell / 7] : 0);
        }
        SharedStates y = new SharedStates();
        y.write(0, 0, 1);
        y.branch(0);
        due("a merge into an ancestor takes what is merged", y.merge(1, 1), 0);
        due("the cell 0", y.read(2, 0), 1);
        due("a merge of an ancestor takes nothing", y.merge(0, 0), 0);
        due("the cell 0", y.read(3, 0), 1);
    }

    private static void mergedParent() {
        sentence("Its parent is the state at which the branch stood.");
        SharedStates x = withTwoBranches();
        x.merge(0, 3);
        due("the parent", x.stateOf(4, 0), 1);
        x.merge(0, 4);
        due("the parent, as a state is merged into itself", x.stateOf(5, 0), 4);
        x.merge(1, 0);
        due("the parent, as an ancestor is merged", x.stateOf(6, 0), 3);
    }

    // ---- Forgetting, Settings

    private static void forgetting() {
        sentence("A state can be forgotten if it is not state 0 and no branch stands at it: states whose parent it is "
            + "get its parent in place of it.");
        SharedStates x = new SharedStates();
        due("state 0", x.forget(0), IMPOSSIBLE);
        x.write(0, 0, 1);
        due("state 0, where no branch stands", x.forget(0), IMPOSSIBLE);
        due("a state with the branch 0", x.forget(1), IMPOSSIBLE);
        x.branch(1);
        x.write(0, 0, 2);
        due("a state with the branch 1", x.forget(1), IMPOSSIBLE);
        x.write(1, 0, 3);
        x.write(1, 0, 4);
        due("a state with two children", x.forget(1), 1);
        due("the one child's parent", x.stateOf(2, 0), 0);
        due("the other child's parent", x.stateOf(3, 0), 0);
        due("the grandchild's parent", x.stateOf(4, 0), 3);
        due("children of state 0", x.stateOf(0, 1), 2);
        due("the cells stay", x.read(2, 0), 2);
        x.leave(1);
        due("a state whose branch was left", x.forget(4), 1);
        due("a state that is forgotten", x.forget(4), INVALID);
        due("back over what is forgotten", x.back(0), 0);
    }

    private static void settings() {
        sentence("The settings are (in parentheses: range; first value): 0 (0 or 1; 1).");
        SharedStates x = new SharedStates();
        due("the first value", x.count(20), 1);
        due("a setting below", x.set(-1, 0), INVALID);
        due("a setting above", x.set(1, 0), INVALID);
        due("a value below", x.set(0, -1), INVALID);
        due("a value above", x.set(0, 2), INVALID);
        due("set(0, 0)", x.set(0, 0), 1);
        due("the value", x.count(20), 0);
        due("set(0, 1)", x.set(0, 1), 0);
        due("the value", x.count(20), 1);
    }

    // ---- Changes and errors

    private static void changes() {
        sentence("The changes are the calls of write, fill, copy, merge, branch, leave, back, forget, share, set and "
            + "play that return no error.");
        changesBy(1, "write", x -> x.write(0, 0, 0));
        changesBy(1, "fill", x -> x.fill(0, 0, 1, 0));
        changesBy(1, "copy", x -> x.copy(0, 0, 0, 0, 1));
        changesBy(1, "merge", x -> x.merge(0, 0));
        changesBy(1, "branch", x -> x.branch(0));
        changesBy(1, "leave", x -> x.leave(1));
        changesBy(1, "back", x -> x.back(1));
        changesBy(1, "forget", x -> x.forget(1));
        changesBy(1, "share of none", x -> x.share());
        changesBy(1, "set to what it was", x -> x.set(0, 1));
        changesBy(1, "play of no orders", x -> x.play());
        changesBy(0, "an error of write", x -> x.write(0, 48, 0));
        changesBy(0, "an error of fill", x -> x.fill(0, 47, 2, 0));
        changesBy(0, "an error of copy", x -> x.copy(0, 0, 0, 0, 0));
        changesBy(0, "an error of merge", x -> x.merge(0, 9));
        changesBy(0, "an error of branch", x -> x.branch(9));
        changesBy(0, "an error of leave", x -> x.leave(2));
        changesBy(0, "an error of back", x -> x.back(0));
        changesBy(0, "an error of forget", x -> x.forget(0));
        changesBy(0, "an error of set", x -> x.set(0, 2));
        changesBy(0, "type", x -> x.type('b'));
        changesBy(0, "an error of play", x -> {
            x.type('b');
            x.play();
        });
        changesBy(0, "clearText", x -> x.clearText());
        changesBy(0, "an error of undo", x -> x.undo());
        noChangesByAsking();
    }

    private static void noChangesByAsking() {
        changesBy(0, "read", x -> x.read(0, 0));
        changesBy(0, "stateOf", x -> x.stateOf(1, 0));
        changesBy(0, "number", x -> x.number(0));
        changesBy(0, "blockAt", x -> x.blockAt(1, 0));
        changesBy(0, "blockOf", x -> x.blockOf(1, 0));
        changesBy(0, "head", x -> x.head(0));
        changesBy(0, "unlike", x -> x.unlike(0, 1, 0));
        changesBy(0, "like", x -> x.like(0));
        changesBy(0, "before", x -> x.before(1, 0));
        changesBy(0, "conflicts", x -> x.conflicts(0, 1));
        changesBy(0, "frees", x -> x.frees(1));
        changesBy(0, "heaviest", x -> x.heaviest(0));
        changesBy(0, "count", x -> x.count(0));
        changesBy(0, "fault", x -> x.fault(0));
    }

    private static void changesBy(int many, String what, Consumer<SharedStates> call) {
        due("changes by " + what, and(TermsTest::withoutHistory, call).get().count(9), many);
    }

    /** Branch 0 at state 0, branch 1 at state 2, whose parent is 1, where none stands; nothing can be undone. */
    private static SharedStates withoutHistory() {
        SharedStates x = new SharedStates();
        x.branch(0);
        x.write(1, 0, 1);
        x.write(1, 0, 2);
        // four more changes push the others out of the history, and are undone
        for (int i = 0; i < 4; i++) {
            x.set(0, 1);
        }
        for (int i = 0; i < 4; i++) {
            x.undo();
        }
        return x;
    }

    private static void history() {
        sentence("A history of at most 4 of them is kept: each change records everything before it but the text, and if "
            + "there are 5 records then, the oldest one is dropped.");
        SharedStates x = new SharedStates();
        for (int i = 1; i <= 7; i++) {
            due("write", x.write(0, 0, i), i);
            due("changes", x.count(9), Math.min(4, i));
        }
        dueRow("undo", x, (s, i) -> s.undo(), 3, 2, 1, 0, IMPOSSIBLE);
        due("the state before the oldest that is kept", x.head(0), 3);
        due("states", x.count(0), 4);
        SharedStates y = new SharedStates();
        y.type('b');
        y.write(0, 0, 1);
        y.type('c');
        due("undo", y.undo(), 0);
        due("the text of later stays", y.count(10), 2);
        y.write(0, 0, 1);
        y.clearText();
        due("undo", y.undo(), 0);
        due("the text that was cleared is not there again", y.count(10), 0);
        everythingIsRecorded();
    }

    private static void everythingIsRecorded() {
        undoneWholly("write", TermsTest::withoutHistory, x -> x.write(1, 0, 3));
        undoneWholly("fill", TermsTest::withoutHistory, x -> x.fill(0, 0, 48, 4));
        undoneWholly("copy", TermsTest::withoutHistory, x -> x.copy(1, 0, 0, 0, 48));
        undoneWholly("merge", TermsTest::withoutHistory, x -> x.merge(0, 2));
        undoneWholly("merge with a conflict", and(TermsTest::withoutHistory, x -> x.write(0, 0, 3)), x -> x.merge(0, 2));
        undoneWholly("branch", TermsTest::withoutHistory, x -> x.branch(1));
        undoneWholly("leave", TermsTest::withoutHistory, x -> x.leave(0));
        undoneWholly("back", TermsTest::withoutHistory, x -> x.back(1));
        undoneWholly("forget", TermsTest::withoutHistory, x -> x.forget(1));
        undoneWholly("set", TermsTest::withoutHistory, x -> x.set(0, 0));
        undoneWholly("play of no orders", TermsTest::withoutHistory, x -> x.play());
        undoneWholly("play", () -> withText("b0;w1,0,1;w0,0,2;f0,8,16,2;m0,1;b3;x2;"), x -> x.play());
        undoneWholly("share", TermsTest::withLikeBlocks, x -> x.share());
    }

    private static void undoneWholly(String what, Supplier<SharedStates> made, Consumer<SharedStates> change) {
        String before = picture(made);
        Supplier<SharedStates> changed = and(made, change);
        check(!picture(changed).equals(before), what + " is no change");
        check(picture(and(changed, x -> x.undo())).equals(before), what + " is not undone wholly");
    }

    private static SharedStates withLikeBlocks() {
        SharedStates x = new SharedStates();
        x.set(0, 0);
        x.fill(0, 0, 48, 1);
        x.fill(0, 0, 24, 0);
        return x;
    }

    private static void severalErrors() {
        sentence("If several errors apply to a call, INVALID_ARGUMENT is returned rather than NOT_POSSIBLE, "
            + "NOT_POSSIBLE rather than LIMIT_REACHED, and LIMIT_REACHED rather than NOT_FOUND.");
        SharedStates x = withAllStates();
        due("INVALID_ARGUMENT, 16 states: write", x.write(0, 48, 0), INVALID);
        due("INVALID_ARGUMENT, 16 states: fill", x.fill(0, 47, 2, 0), INVALID);
        due("INVALID_ARGUMENT, 16 states: copy", x.copy(0, 0, 0, 47, 2), INVALID);
        due("INVALID_ARGUMENT, 16 states: merge", x.merge(0, 16), INVALID);
        SharedStates y = withAllBlocks();
        due("INVALID_ARGUMENT, 40 blocks: write", y.write(0, 0, 1000), INVALID);
        due("INVALID_ARGUMENT, 40 blocks: fill", y.fill(1, 0, 48, 9), INVALID);
        due("INVALID_ARGUMENT, 40 blocks: copy", y.copy(0, 8, 0, 0, 48), INVALID);
        due("INVALID_ARGUMENT, 40 blocks: merge", y.merge(4, 0), INVALID);
        due("INVALID_ARGUMENT, 4 branches: branch", withAllBranches().branch(1), INVALID);
        SharedStates z = new SharedStates();
        due("INVALID_ARGUMENT, the only branch: leave", z.leave(1), INVALID);
        due("INVALID_ARGUMENT, at state 0: back", z.back(1), INVALID);
        due("INVALID_ARGUMENT, none can be forgotten: forget", z.forget(1), INVALID);
        due("INVALID_ARGUMENT, none can be forgotten: frees", z.frees(1), INVALID);
        due("INVALID_ARGUMENT, no parent: stateOf", z.stateOf(-1, 0), INVALID);
        due("INVALID_ARGUMENT, none alike: unlike", z.unlike(0, 0, 4), INVALID);
        due("INVALID_ARGUMENT, none alike: unlike", z.unlike(0, 1, 1), INVALID);
        due("INVALID_ARGUMENT, none alike: like", z.like(1), INVALID);
        due("INVALID_ARGUMENT, none before: before", z.before(0, 48), INVALID);
        due("INVALID_ARGUMENT, none to forget: heaviest", z.heaviest(2), INVALID);
        due("INVALID_ARGUMENT, no fault: fault", z.fault(3), INVALID);
        due("INVALID_ARGUMENT, none like it: blockOf", z.blockOf(1, 4), INVALID);
        typeAll(z, "0123456789".repeat(6));
        due("INVALID_ARGUMENT, 60 characters: type", z.type(127), INVALID);
        typeAll(x, "w0,0,1;");
        due("the order's error is LIMIT_REACHED", x.fault(2), LIMIT);
        due("NOT_POSSIBLE: play of an order that reaches a limit", x.play(), IMPOSSIBLE);
    }

    private static void errorsChangeNothing() {
        sentence("A call that returns an error changes nothing.");
        List<Supplier<SharedStates>> objects = List.of(
            SharedStates::new, TestKit::withGaps, and(TestKit::withAllStates, x -> typeAll(x, "x3;w0,0,9;m0,0;")));
        for (Supplier<SharedStates> made : objects) {
            String before = picture(made);
            wrongArguments((call, number) -> {
                due("a call with a wrong argument", call.answer(made.get(), number), INVALID);
                check(picture(and(made, x -> call.answer(x, number))).equals(before), "an error changed something");
            });
        }
        unchanged("the only branch left", SharedStates::new, x -> x.leave(0));
        unchanged("back from state 0", TestKit::withGaps, x -> x.back(3));
        unchanged("a fifth branch", TestKit::withAllBranches, x -> x.branch(0));
        unchanged("a branch's state forgotten", TestKit::withGaps, x -> x.forget(5));
        unchanged("no change undone", SharedStates::new, x -> x.undo());
        unchanged("a fault played", () -> withText("b0;w1,0,7;f0,0,48,8;m0,1;x2;q"), x -> x.play());
        unchanged("an order that is not possible played", () -> withText("b0;w1,0,7;f0,0,48,8;m0,1;x0;"), x -> x.play());
        unchanged("a 61st character", () -> withText("b0;".repeat(20)), x -> x.type('b'));
        unchanged("a 17th state", TestKit::withAllStates, x -> x.fill(0, 0, 48, 7));
        unchanged("a 17th state", TestKit::withAllStates, x -> x.merge(0, 3));
        unchanged("a 41st block, as the last of some", TestKit::withManyBlocks, x -> x.fill(0, 0, 32, 9));
        unchanged("a 41st block, as the last of some", TestKit::withManyBlocks, x -> x.copy(0, 1, 0, 0, 48));
        unchanged("a 41st block", TestKit::withAllBlocks, x -> x.write(0, 0, 0));
        unchanged("a 41st block", and(TestKit::withAllBlocks, x -> x.branch(1)), x -> x.merge(1, 7));
        unchanged("a 41st block, as others are taken", and(TestKit::withAllBlocks, x -> x.set(0, 1)), x -> x.fill(0, 0, 41, 3));
    }

    /** Calls that return INVALID_ARGUMENT, whatever the object, with the number that makes them do so. */
    private static void wrongArguments(BiConsumer<Call, Integer> use) {
        for (int number : new int[] {-1, 1000}) {
            use.accept((x, n) -> x.write(n, 0, 1), number);
            use.accept((x, n) -> x.write(0, n, 1), number);
            use.accept((x, n) -> x.write(0, 0, n), number);
            use.accept((x, n) -> x.fill(n, 0, 48, 1), number);
            use.accept((x, n) -> x.fill(0, n, 1, 1), number);
            use.accept((x, n) -> x.fill(0, 0, n, 1), number);
            use.accept((x, n) -> x.fill(0, 0, 48, n), number);
            use.accept((x, n) -> x.copy(n, 0, 0, 0, 48), number);
            use.accept((x, n) -> x.copy(0, n, 0, 0, 48), number);
            use.accept((x, n) -> x.copy(0, 0, n, 0, 1), number);
            use.accept((x, n) -> x.copy(0, 0, 0, n, 1), number);
            use.accept((x, n) -> x.copy(0, 0, 0, 0, n), number);
            use.accept((x, n) -> x.merge(n, 0), number);
            use.accept((x, n) -> x.merge(0, n), number);
            use.accept((x, n) -> x.branch(n), number);
            use.accept((x, n) -> x.leave(n), number);
            use.accept((x, n) -> x.back(n), number);
            use.accept((x, n) -> x.forget(n), number);
            use.accept((x, n) -> x.set(n, 0), number);
            use.accept((x, n) -> x.set(0, n), number);
            use.accept((x, n) -> x.type(n), number);
            use.accept((x, n) -> x.fault(n), number);
        }
    }

    private static void unchanged(String what, Supplier<SharedStates> made, Consumer<SharedStates> call) {
        check(picture(and(made, call)).equals(picture(made)), what + " changed something");
    }

    private static void noSuchNumber() {
        sentence("If there is no state, branch or block with a certain number, this is INVALID_ARGUMENT.");
        int[] states = {0, 1, 3, 4, 5};
        int[] branches = {0, 2, 3};
        Supplier<SharedStates> made = TestKit::withGaps;
        dueOnly("read", made, (x, n) -> x.read(n, 0), states);
        dueOnly("copy", made, (x, n) -> x.copy(0, n, 0, 0, 1), states);
        dueOnly("forget", made, (x, n) -> x.forget(n), states);
        dueOnly("head", made, (x, n) -> x.head(n), branches);
        dueOnly("leave", made, (x, n) -> x.leave(n), branches);
        dueOnly("blockOf", made, (x, n) -> x.blockOf(n, 0), range(0, 4));
        dueOnly("blockOf, as a block is gone", and(made, x -> x.forget(3)), (x, n) -> x.blockOf(n, 0), range(0, 4));
        dueOnly("blockOf, as a block is gone", and(made, x -> {
            x.leave(2);
            x.forget(4);
        }), (x, n) -> x.blockOf(n, 0), 0, 1, 2, 3);
    }

    private static void limitsOfWrites() {
        sentence("LIMIT_REACHED of a write, of whatever kind, is: there are 16 states, or there would be more than 40 blocks.");
        due("16 states: write", withAllStates().write(0, 0, 15), LIMIT);
        due("16 states: fill", withAllStates().fill(0, 0, 48, 0), LIMIT);
        due("16 states: copy", withAllStates().copy(0, 15, 0, 0, 48), LIMIT);
        due("16 states: merge", withAllStates().merge(0, 15), LIMIT);
        Supplier<SharedStates> fifteen = and(TestKit::withAllStates, x -> x.forget(7));
        due("15 states: write", fifteen.get().write(0, 0, 15), 16);
        due("15 states: fill", fifteen.get().fill(0, 0, 48, 0), 16);
        due("15 states: copy", fifteen.get().copy(0, 15, 0, 0, 48), 16);
        due("15 states: merge", fifteen.get().merge(0, 15), 0);
        due("41 blocks: write", withAllBlocks().write(0, 47, 9), LIMIT);
        due("41 blocks: fill", withManyBlocks().fill(0, 7, 18, 9), LIMIT);
        due("41 blocks: copy", withManyBlocks().copy(0, 1, 7, 7, 18), LIMIT);
        due("40 blocks: fill", withManyBlocks().fill(0, 7, 17, 9), 7);
        due("40 blocks: copy", withManyBlocks().copy(0, 1, 7, 7, 17), 7);
        due("40 blocks, none is made: write", withAllBlocks().write(0, 47, 6), 8);
        mergeAtTheLimit();
    }

    private static void mergeAtTheLimit() {
        SharedStates x = new SharedStates();
        x.set(0, 0);
        x.branch(0);
        x.branch(0);
        x.write(1, 0, 9);
        for (int i = 1; i <= 5; i++) {
            x.fill(0, 0, 48, i);
        }
        x.fill(0, 0, 40, 6);
        due("37 blocks: write", x.write(2, 0, 7), 8);
        due("38 blocks: write", x.write(2, 8, 7), 9);
        due("blocks", x.count(2), 39);
        due("39 blocks, one is made: merge", x.merge(1, 9), 1);
        due("blocks", x.count(2), 40);
        due("undo", x.undo(), 3);
        due("39 blocks: write", x.write(2, 8, 8), 10);
        due("40 blocks, one would be made: merge", x.merge(1, 9), LIMIT);
        due("40 blocks, six would be made: merge", x.merge(1, 7), LIMIT);
        due("40 blocks, none is made: merge", x.merge(1, 8), 1);
        x.set(0, 1);
        due("40 blocks, five are taken, but one would be made: merge", x.merge(1, 7), LIMIT);
        due("40 blocks, one is taken: merge", x.merge(1, 9), 1);
        due("blocks", x.count(2), 40);
    }

    private static void constants() {
        sentence("The constants: `INVALID_ARGUMENT = -1000001`: An argument is out of its range, or there is no such "
            + "state, branch or block.");
        due("INVALID_ARGUMENT", SharedStates.INVALID_ARGUMENT, INVALID);
        due("a value out of its range", new SharedStates().write(0, 0, 1000), SharedStates.INVALID_ARGUMENT);
        due("no such state", new SharedStates().merge(0, 1), SharedStates.INVALID_ARGUMENT);
        due("no such branch", new SharedStates().head(1), SharedStates.INVALID_ARGUMENT);
        due("no such block", new SharedStates().blockOf(1, 0), SharedStates.INVALID_ARGUMENT);
        sentence("`NOT_POSSIBLE = -1000002`: The call is not possible in the present state.");
        due("NOT_POSSIBLE", SharedStates.NOT_POSSIBLE, IMPOSSIBLE);
        due("undo with no change", new SharedStates().undo(), SharedStates.NOT_POSSIBLE);
        sentence("`LIMIT_REACHED = -1000003`: A fixed limit has been reached.");
        due("LIMIT_REACHED", SharedStates.LIMIT_REACHED, LIMIT);
        due("a fifth branch", withAllBranches().branch(0), SharedStates.LIMIT_REACHED);
        sentence("`NOT_FOUND = -1000004`: There is no such value.");
        due("NOT_FOUND", SharedStates.NOT_FOUND, MISSING);
        due("a second state", new SharedStates().number(1), SharedStates.NOT_FOUND);
    }

    private static void interfaceOrder() {
        untested("Ahead of the calls `write`, `fill`, `copy`, `merge` the interface says: ---- writes.");
        untested("Ahead of the calls `branch`, `leave`, `back`, `forget`, `share`, `set` the interface says: "
            + "---- branches, states.");
        untested("Ahead of the calls `read`, `stateOf`, `number`, `blockAt`, `blockOf`, `head`, `unlike`, `like`, "
            + "`before` the interface says: ---- what there is.");
        untested("Ahead of the calls `conflicts`, `frees`, `heaviest`, `count`, `undo` the interface says: "
            + "---- what would be.");
        untested("Ahead of the calls `type`, `clearText`, `fault`, `play` the interface says: ---- texts.");
    }

    // ---- Not promised

    private static void notPromised() {
        section("Not promised");
        untested("How the state is held inside the object is free, as are the speed of each call, the text of toString "
            + "and the behaviour of equals and hashCode. Use of one object from several threads at once is not "
            + "promised to be safe. Nothing is promised beyond the answers and state changes described above, and "
            + "nothing about an object after its 512th call.");
    }

    public static void main(String[] args) {
        sections();
        whatItIs();
        section("Terms");
        untested("All numbers are whole numbers.");
        setsOfCells();
        cellsOfAState();
        untested("Cells, blocks");
        blocksAreNeverChanged();
        fortyBlocks();
        untested("States, branches");
        sixteenStates();
        stateZero();
        branchNames();
        writesMoveTheBranch();
        newBlocksWhereCellsBecomeDifferent();
        writesThatMakeNothingDifferent();
        likeBlocksAreTaken();
        section("Merging");
        commonState();
        mergedCells();
        mergedParent();
        section("Forgetting");
        forgetting();
        section("Settings");
        settings();
        section("Changes and errors");
        changes();
        history();
        severalErrors();
        errorsChangeNothing();
        noSuchNumber();
        limitsOfWrites();
        constants();
        interfaceOrder();
        notPromised();
        finish("the terms hold");
    }
}
