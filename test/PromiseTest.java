/** For each promise: ordinary inputs, the edges that the document names, and wrong inputs. */
public final class PromiseTest extends TestKit {
    private static void constants() {
        begin("constants");
        due("INVALID_ARGUMENT", SharedStates.INVALID_ARGUMENT, INVALID);
        due("NOT_POSSIBLE", SharedStates.NOT_POSSIBLE, IMPOSSIBLE);
        due("LIMIT_REACHED", SharedStates.LIMIT_REACHED, LIMIT);
        due("NOT_FOUND", SharedStates.NOT_FOUND, MISSING);
    }

    private static void promise1() {
        begin("1, a new object");
        SharedStates x = new SharedStates();
        int[] counts = {1, 1, 1, 6, 0, 1, 1, 0, 0, 0, 0};
        for (int what = 0; what < counts.length; what++) {
            due("count(" + what + ")", x.count(what), counts[what]);
        }
        due("count(20)", x.count(20), 1);
        due("head(0)", x.head(0), 0);
        for (int cell = 0; cell < 48; cell++) {
            due("read(0, " + cell + ")", x.read(0, cell), 0);
        }
        for (int place = 0; place < 6; place++) {
            due("blockAt(0, " + place + ")", x.blockAt(0, place), 0);
        }
        due("undo()", x.undo(), IMPOSSIBLE);
        SharedStates y = new SharedStates();
        y.write(0, 0, 1);
        due("count(0) of another object", x.count(0), 1);
    }

    private static void promise2() {
        begin("2, write");
        SharedStates x = new SharedStates();
        due("write(0, 0, 0), no cell becomes different", x.write(0, 0, 0), 1);
        due("blockAt(1, 0)", x.blockAt(1, 0), 0);
        due("count(7)", x.count(7), 0);
        due("write(0, 47, 999)", x.write(0, 47, 999), 2);
        due("head(0)", x.head(0), 2);
        due("stateOf(2, 0)", x.stateOf(2, 0), 1);
        due("read(2, 47)", x.read(2, 47), 999);
        due("read(1, 47)", x.read(1, 47), 0);
        due("blockAt(2, 5)", x.blockAt(2, 5), 1);
        due("blockAt(2, 4)", x.blockAt(2, 4), 0);
        due("write(0, 7, 999) takes the like block", x.write(0, 7, 999), 3);
        due("blockAt(3, 0)", x.blockAt(3, 0), 1);
        due("count(6)", x.count(6), 2);
        due("count(7)", x.count(7), 1);
        x.set(0, 0);
        due("write(0, 47, 0) makes a block anew", x.write(0, 47, 0), 4);
        due("blockAt(4, 5)", x.blockAt(4, 5), 2);
        due("count(6)", x.count(6), 3);
        x.set(0, 1);
        due("write(0, 15, 999)", x.write(0, 15, 999), 5);
        due("write(0, 15, 0) takes the lowest of the like ones", x.write(0, 15, 0), 6);
        due("blockAt(6, 1)", x.blockAt(6, 1), 0);
        due("count(7)", x.count(7), 3);
        writeWrong();
        writeLimits();
    }

    private static void writeWrong() {
        SharedStates x = new SharedStates();
        for (int number : WRONG) {
            due("write(" + number + ", 0, 0)", x.write(number, 0, 0), INVALID);
            due("write(0, " + number + ", 0)", x.write(0, number, 0), INVALID);
            due("write(0, 0, " + number + ")", x.write(0, 0, number), INVALID);
        }
        due("write(1, 0, 0)", x.write(1, 0, 0), INVALID);
        due("write(4, 0, 0)", x.write(4, 0, 0), INVALID);
        due("write(0, 48, 0)", x.write(0, 48, 0), INVALID);
        due("write(0, 0, 1000)", x.write(0, 0, 1000), INVALID);
        due("count(0)", x.count(0), 1);
        due("count(9)", x.count(9), 0);
    }

    private static void writeLimits() {
        SharedStates x = withAllStates();
        due("count(0)", x.count(0), 16);
        due("write(0, 0, 15), the 17th state", x.write(0, 0, 15), LIMIT);
        due("write(0, 48, 1) is invalid first", x.write(0, 48, 1), INVALID);
        due("count(5)", x.count(5), 16);
        due("forget(3)", x.forget(3), 1);
        due("write(0, 1, 1), the number after all", x.write(0, 1, 1), 16);
        due("its block is the lowest free one", x.blockAt(16, 0), 3);
        SharedStates y = withManyBlocks();
        due("write(0, 0, 11)", y.write(0, 0, 11), 7);
        due("write(0, 8, 11)", y.write(0, 8, 11), 8);
        due("write(0, 16, 11)", y.write(0, 16, 11), 9);
        due("count(2)", y.count(2), 40);
        due("write(0, 24, 11)", y.write(0, 24, 11), LIMIT);
        due("write(0, 16, 11), no cell becomes different", y.write(0, 16, 11), 10);
        due("count(6)", y.count(6), 40);
        y.set(0, 1);
        due("write(0, 24, 11) takes a block", y.write(0, 24, 11), 11);
        due("blockAt(11, 3)", y.blockAt(11, 3), 37);
        due("write(0, 24, 12)", y.write(0, 24, 12), LIMIT);
        due("count(9)", y.count(9), 4);
        due("count(7)", y.count(7), 1);
    }

    private static void promise3() {
        begin("3, fill");
        SharedStates x = new SharedStates();
        due("fill(0, 0, 48, 7)", x.fill(0, 0, 48, 7), 1);
        due("count(2)", x.count(2), 2);
        due("count(6)", x.count(6), 2);
        due("count(7), one for each place but the first", x.count(7), 5);
        due("fill(0, 6, 12, 8)", x.fill(0, 6, 12, 8), 2);
        due("blockAt(2, 0)", x.blockAt(2, 0), 2);
        due("blockAt(2, 1)", x.blockAt(2, 1), 3);
        due("blockAt(2, 2)", x.blockAt(2, 2), 4);
        due("blockAt(2, 3)", x.blockAt(2, 3), 1);
        due("read(2, 5)", x.read(2, 5), 7);
        due("read(2, 6)", x.read(2, 6), 8);
        due("read(2, 17)", x.read(2, 17), 8);
        due("read(2, 18)", x.read(2, 18), 7);
        due("fill(0, 47, 1, 0)", x.fill(0, 47, 1, 0), 3);
        due("fill(0, 0, 1, 999)", x.fill(0, 0, 1, 999), 4);
        for (int number : WRONG) {
            due("fill(" + number + ", 0, 1, 0)", x.fill(number, 0, 1, 0), INVALID);
            due("fill(0, " + number + ", 1, 0)", x.fill(0, number, 1, 0), INVALID);
            due("fill(0, 0, " + number + ", 0)", x.fill(0, 0, number, 0), INVALID);
            due("fill(0, 0, 1, " + number + ")", x.fill(0, 0, 1, number), INVALID);
        }
        due("fill(1, 0, 1, 0)", x.fill(1, 0, 1, 0), INVALID);
        due("fill(0, 48, 1, 0)", x.fill(0, 48, 1, 0), INVALID);
        due("fill(0, 0, 0, 0)", x.fill(0, 0, 0, 0), INVALID);
        due("fill(0, 0, 49, 0)", x.fill(0, 0, 49, 0), INVALID);
        due("fill(0, 47, 2, 0)", x.fill(0, 47, 2, 0), INVALID);
        due("fill(0, 1, 48, 0)", x.fill(0, 1, 48, 0), INVALID);
        due("fill(0, 47, MAX, 0)", x.fill(0, 47, Integer.MAX_VALUE, 0), INVALID);
        due("fill(0, 0, 1, 1000)", x.fill(0, 0, 1, 1000), INVALID);
        due("count(5)", x.count(5), 5);
        fillLimits();
    }

    private static void fillLimits() {
        SharedStates x = withManyBlocks();
        due("fill(0, 0, 32, 9), four blocks too many by one", x.fill(0, 0, 32, 9), LIMIT);
        due("count(2)", x.count(2), 37);
        due("count(6)", x.count(6), 37);
        due("head(0)", x.head(0), 6);
        due("fill(0, 0, 24, 9)", x.fill(0, 0, 24, 9), 7);
        due("count(2)", x.count(2), 40);
        due("undo()", x.undo(), 3);
        x.set(0, 1);
        due("fill(0, 0, 48, 9) makes one block", x.fill(0, 0, 48, 9), 7);
        due("count(2)", x.count(2), 38);
        due("fill of the 17th state", withAllStates().fill(0, 0, 48, 0), LIMIT);
    }

    private static void promise4() {
        begin("4, copy");
        due("copy(0, 0, 0, 0, 48) of a new object", new SharedStates().copy(0, 0, 0, 0, 48), 1);
        SharedStates x = new SharedStates();
        for (int i = 0; i < 8; i++) {
            x.write(0, i, i + 1);
        }
        due("copy(0, 8, 0, 1, 10), overlapping itself", x.copy(0, 8, 0, 1, 10), 9);
        int[] row = {1, 1, 2, 3, 4, 5, 6, 7, 8, 0, 0, 0};
        for (int cell = 0; cell < row.length; cell++) {
            due("read(9, " + cell + ")", x.read(9, cell), row[cell]);
        }
        due("stateOf(9, 0)", x.stateOf(9, 0), 8);
        due("copy(0, 8, 2, 45, 3)", x.copy(0, 8, 2, 45, 3), 10);
        due("read(10, 47)", x.read(10, 47), 5);
        due("read(10, 44)", x.read(10, 44), 0);
        due("copy(0, 0, 0, 0, 48)", x.copy(0, 0, 0, 0, 48), 11);
        due("unlike(11, 0, 0)", x.unlike(11, 0, 0), 0);
        due("unlike(11, 0, 2)", x.unlike(11, 0, 2), 0);
        due("copy(0, 8, 0, 16, 8) takes the like block", x.copy(0, 8, 0, 16, 8), 12);
        due("blockAt(12, 2)", x.blockAt(12, 2), x.blockAt(8, 0));
        for (int number : WRONG) {
            due("copy(" + number + ", 0, 0, 0, 1)", x.copy(number, 0, 0, 0, 1), INVALID);
            due("copy(0, " + number + ", 0, 0, 1)", x.copy(0, number, 0, 0, 1), INVALID);
            due("copy(0, 0, " + number + ", 0, 1)", x.copy(0, 0, number, 0, 1), INVALID);
            due("copy(0, 0, 0, " + number + ", 1)", x.copy(0, 0, 0, number, 1), INVALID);
            due("copy(0, 0, 0, 0, " + number + ")", x.copy(0, 0, 0, 0, number), INVALID);
        }
        due("copy(1, 0, 0, 0, 1)", x.copy(1, 0, 0, 0, 1), INVALID);
        due("copy(0, 13, 0, 0, 1)", x.copy(0, 13, 0, 0, 1), INVALID);
        due("copy(0, 0, 48, 0, 1)", x.copy(0, 0, 48, 0, 1), INVALID);
        due("copy(0, 0, 0, 48, 1)", x.copy(0, 0, 0, 48, 1), INVALID);
        due("copy(0, 0, 0, 0, 0)", x.copy(0, 0, 0, 0, 0), INVALID);
        due("copy(0, 0, 0, 0, 49)", x.copy(0, 0, 0, 0, 49), INVALID);
        due("copy(0, 0, 41, 0, 8)", x.copy(0, 0, 41, 0, 8), INVALID);
        due("copy(0, 0, 0, 41, 8)", x.copy(0, 0, 0, 41, 8), INVALID);
        due("copy(0, 0, 47, 0, MAX)", x.copy(0, 0, 47, 0, Integer.MAX_VALUE), INVALID);
        due("count(5)", x.count(5), 13);
        due("copy of the 17th state", withAllStates().copy(0, 0, 0, 0, 1), LIMIT);
        SharedStates y = withManyBlocks();
        due("copy of four blocks too many by one", y.copy(0, 1, 0, 0, 32), LIMIT);
        due("copy of three blocks", y.copy(0, 1, 0, 0, 24), 7);
        due("count(2)", y.count(2), 40);
    }

    private static void promise5() {
        begin("5, merge");
        due("merge(0, 0) of a new object", new SharedStates().merge(0, 0), 0);
        SharedStates x = withTwoBranches();
        due("merge(0, 3)", x.merge(0, 3), 1);
        int[] row = {5, 5, 5, 5, 0};
        for (int cell = 0; cell < row.length; cell++) {
            due("read(4, " + cell + ")", x.read(4, cell), row[cell]);
        }
        due("head(0)", x.head(0), 4);
        due("head(1)", x.head(1), 3);
        due("stateOf(4, 0)", x.stateOf(4, 0), 1);
        due("count(8)", x.count(8), 1);
        due("merge(1, 4)", x.merge(1, 4), 1);
        due("count(8)", x.count(8), 2);
        due("read(5, 0)", x.read(5, 0), 5);
        due("read(5, 1)", x.read(5, 1), 6);
        due("merge(1, 5), itself", x.merge(1, 5), 0);
        due("unlike(6, 5, 2)", x.unlike(6, 5, 2), 0);
        due("merge(1, 0), an ancestor", x.merge(1, 0), 0);
        due("unlike(7, 6, 2)", x.unlike(7, 6, 2), 0);
        due("branch(2)", x.branch(2), 2);
        due("merge(2, 7), a descendant", x.merge(2, 7), 0);
        due("unlike(8, 7, 0)", x.unlike(8, 7, 0), 0);
        due("stateOf(8, 0)", x.stateOf(8, 0), 2);
        due("merge(3, 0)", x.merge(3, 0), INVALID);
        due("merge(0, 9)", x.merge(0, 9), INVALID);
        for (int number : WRONG) {
            due("merge(" + number + ", 0)", x.merge(number, 0), INVALID);
            due("merge(0, " + number + ")", x.merge(0, number), INVALID);
        }
        due("count(5)", x.count(5), 9);
        mergeLimits();
    }

    private static void mergeLimits() {
        due("merge of the 17th state", withAllStates().merge(0, 0), LIMIT);
        SharedStates x = new SharedStates();
        x.set(0, 0);
        x.branch(0);
        x.fill(1, 0, 1, 3);
        x.fill(1, 8, 8, 3);
        for (int i = 1; i <= 6; i++) {
            x.fill(0, 0, 48, i);
        }
        due("count(2)", x.count(2), 39);
        due("merge(1, 8), conflicts at two places, four new blocks", x.merge(1, 8), LIMIT);
        due("count(2)", x.count(2), 39);
        due("count(8)", x.count(8), 0);
        x.set(0, 1);
        due("merge(1, 8) takes four blocks and makes one", x.merge(1, 8), 9);
        due("count(2)", x.count(2), 40);
        due("count(7)", x.count(7), 4);
        due("count(8)", x.count(8), 9);
    }

    private static void promise6() {
        begin("6, branch");
        SharedStates x = new SharedStates();
        x.write(0, 0, 1);
        due("branch(0)", x.branch(0), 1);
        due("head(1)", x.head(1), 0);
        due("branch(1)", x.branch(1), 2);
        due("head(2)", x.head(2), 1);
        due("branch(1)", x.branch(1), 3);
        due("branch(1), a fifth one", x.branch(1), LIMIT);
        due("branch(2) is invalid first", x.branch(2), INVALID);
        due("leave(1)", x.leave(1), 3);
        due("leave(0)", x.leave(0), 2);
        due("branch(0), the lowest name", x.branch(0), 0);
        due("branch(1), the next", x.branch(1), 1);
        for (int number : WRONG) {
            due("branch(" + number + ")", x.branch(number), INVALID);
        }
        due("count(9)", x.count(9), 4);
    }

    private static void promise7() {
        begin("7, leave");
        SharedStates x = new SharedStates();
        due("leave(0), the only one", x.leave(0), IMPOSSIBLE);
        due("leave(1) is invalid first", x.leave(1), INVALID);
        x.branch(0);
        x.branch(0);
        due("leave(1)", x.leave(1), 2);
        due("head(1)", x.head(1), INVALID);
        due("leave(1)", x.leave(1), INVALID);
        due("leave(0)", x.leave(0), 1);
        due("leave(2), the only one", x.leave(2), IMPOSSIBLE);
        due("leave(3)", x.leave(3), INVALID);
        due("leave(4)", x.leave(4), INVALID);
        for (int number : WRONG) {
            due("leave(" + number + ")", x.leave(number), INVALID);
        }
        due("count(9)", x.count(9), 4);
        due("count(0), states stay", x.count(0), 1);
    }

    private static void promise8() {
        begin("8, back");
        SharedStates x = new SharedStates();
        due("back(0) at state 0", x.back(0), IMPOSSIBLE);
        due("back(1)", x.back(1), INVALID);
        x.write(0, 0, 1);
        x.write(0, 0, 2);
        x.write(0, 0, 3);
        x.forget(2);
        due("back(0), over the forgotten one", x.back(0), 1);
        due("head(0)", x.head(0), 1);
        due("count(0)", x.count(0), 3);
        due("back(0)", x.back(0), 0);
        due("back(0)", x.back(0), IMPOSSIBLE);
        due("back(4)", x.back(4), INVALID);
        for (int number : WRONG) {
            due("back(" + number + ")", x.back(number), INVALID);
        }
        due("count(9)", x.count(9), 4);
    }

    private static void promise9() {
        begin("9, forget");
        SharedStates x = new SharedStates();
        due("forget(0)", x.forget(0), IMPOSSIBLE);
        due("forget(1)", x.forget(1), INVALID);
        x.fill(0, 0, 4, 1);
        x.fill(0, 12, 8, 1);
        x.fill(0, 0, 48, 1);
        due("forget(3), a branch stands there", x.forget(3), IMPOSSIBLE);
        due("count(2)", x.count(2), 4);
        due("forget(1), its block is that of state 2 too", x.forget(1), 0);
        due("stateOf(2, 0)", x.stateOf(2, 0), 0);
        due("forget(2)", x.forget(2), 2);
        due("stateOf(3, 0)", x.stateOf(3, 0), 0);
        due("stateOf(0, 1)", x.stateOf(0, 1), 1);
        due("count(2)", x.count(2), 2);
        due("blockOf(1, 0), gone", x.blockOf(1, 0), INVALID);
        due("read(3, 47) of the moved rest", x.read(3, 47), 1);
        due("forget(2)", x.forget(2), INVALID);
        due("write(0, 0, 9), no number comes again", x.write(0, 0, 9), 4);
        due("blockAt(4, 0), the lowest that no block has", x.blockAt(4, 0), 1);
        x.back(0);
        due("forget(4), the last one", x.forget(4), 1);
        due("forget(4)", x.forget(4), INVALID);
        due("write(0, 0, 9)", x.write(0, 0, 9), 5);
        due("write(0, 0, 8)", x.write(0, 0, 8), 6);
        due("write(0, 0, 7)", x.write(0, 0, 7), 7);
        due("forget(3), the first of a row", x.forget(3), 0);
        due("stateOf(5, 0)", x.stateOf(5, 0), 0);
        due("stateOf(6, 0)", x.stateOf(6, 0), 5);
        due("stateOf(7, 0)", x.stateOf(7, 0), 6);
        for (int number : WRONG) {
            due("forget(" + number + ")", x.forget(number), INVALID);
        }
        SharedStates y = withManyBlocks();
        due("forget of six blocks", y.forget(3), 6);
        due("count(2)", y.count(2), 31);
    }

    private static void promise10() {
        begin("10, share");
        SharedStates x = new SharedStates();
        due("share() of one block", x.share(), 0);
        x.set(0, 0);
        x.fill(0, 0, 48, 3);
        x.write(0, 9, 4);
        x.write(0, 9, 3);
        x.write(0, 0, 3);
        due("count(2)", x.count(2), 9);
        due("count(4)", x.count(4), 6);
        due("share()", x.share(), 6);
        due("count(2)", x.count(2), 3);
        due("count(4)", x.count(4), 0);
        due("count(7), none was taken", x.count(7), 0);
        due("blockAt(1, 5)", x.blockAt(1, 5), 1);
        due("blockAt(3, 1)", x.blockAt(3, 1), 1);
        due("blockAt(2, 1)", x.blockAt(2, 1), 7);
        due("blockOf(1, 0)", x.blockOf(1, 0), 23);
        due("read(2, 9)", x.read(2, 9), 4);
        due("share()", x.share(), 0);
        due("count(9), each share is a change", x.count(9), 4);
        due("fill(0, 16, 32, 8)", x.fill(0, 16, 32, 8), 5);
        due("blockAt(5, 2), the lowest that is free now", x.blockAt(5, 2), 2);
        due("blockAt(5, 5)", x.blockAt(5, 5), 5);
    }

    private static void promise11() {
        begin("11, set");
        SharedStates x = new SharedStates();
        due("set(0, 1)", x.set(0, 1), 1);
        due("set(0, 0)", x.set(0, 0), 1);
        due("count(20)", x.count(20), 0);
        due("set(0, 0)", x.set(0, 0), 0);
        due("set(0, 1)", x.set(0, 1), 0);
        due("count(9), each is a change", x.count(9), 4);
        due("set(1, 0)", x.set(1, 0), INVALID);
        due("set(0, 2)", x.set(0, 2), INVALID);
        for (int number : WRONG) {
            due("set(" + number + ", 0)", x.set(number, 0), INVALID);
            due("set(0, " + number + ")", x.set(0, number), INVALID);
        }
        due("count(20)", x.count(20), 1);
    }

    private static void promise12() {
        begin("12, read");
        SharedStates x = new SharedStates();
        x.write(0, 0, 999);
        x.write(0, 47, 1);
        due("read(0, 0)", x.read(0, 0), 0);
        due("read(1, 0)", x.read(1, 0), 999);
        due("read(1, 1)", x.read(1, 1), 0);
        due("read(1, 47)", x.read(1, 47), 0);
        due("read(2, 47)", x.read(2, 47), 1);
        due("read(2, 48)", x.read(2, 48), INVALID);
        due("read(3, 0)", x.read(3, 0), INVALID);
        x.forget(1);
        due("read(1, 0)", x.read(1, 0), INVALID);
        for (int number : WRONG) {
            due("read(" + number + ", 0)", x.read(number, 0), INVALID);
            due("read(0, " + number + ")", x.read(0, number), INVALID);
        }
    }

    private static void promise13() {
        begin("13, stateOf");
        SharedStates x = new SharedStates();
        x.fill(0, 4, 20, 9);
        x.branch(1);
        x.write(1, 0, 2);
        x.write(0, 47, 999);
        x.branch(3);
        int[] zero = {MISSING, 1, 0, 0, MISSING, 0, 1, 0};
        int[] one = {0, 2, 1, 180, 3, 0, 3, 0};
        int[] two = {1, 0, 2, 182, 1, 1, 3, 2};
        int[] three = {1, 0, 2, 1179, 1, 1, 4, 5};
        for (int what = 0; what < 8; what++) {
            due("stateOf(0, " + what + ")", x.stateOf(0, what), zero[what]);
            due("stateOf(1, " + what + ")", x.stateOf(1, what), one[what]);
            due("stateOf(2, " + what + ")", x.stateOf(2, what), two[what]);
            due("stateOf(3, " + what + ")", x.stateOf(3, what), three[what]);
        }
        SharedStates y = new SharedStates();
        y.fill(0, 0, 48, 1);
        due("stateOf(1, 5), one block at six places", y.stateOf(1, 5), 6);
        due("stateOf(0, 5)", y.stateOf(0, 5), 6);
        due("stateOf(4, 0)", x.stateOf(4, 0), INVALID);
        due("stateOf(0, 8)", x.stateOf(0, 8), INVALID);
        for (int number : WRONG) {
            due("stateOf(" + number + ", 0)", x.stateOf(number, 0), INVALID);
            due("stateOf(0, " + number + ")", x.stateOf(0, number), INVALID);
        }
    }

    private static void promise14() {
        begin("14, number");
        SharedStates x = new SharedStates();
        x.write(0, 0, 1);
        x.write(0, 0, 2);
        x.write(0, 0, 3);
        x.forget(1);
        due("number(0)", x.number(0), 0);
        due("number(1)", x.number(1), 2);
        due("number(2)", x.number(2), 3);
        due("number(3)", x.number(3), MISSING);
        due("number(16)", x.number(16), MISSING);
        due("number(MAX)", x.number(Integer.MAX_VALUE), MISSING);
        due("number(-1)", x.number(-1), INVALID);
        due("number(MIN)", x.number(Integer.MIN_VALUE), INVALID);
        due("number(15) of 16", withAllStates().number(15), 15);
    }

    private static void promise15() {
        begin("15, blockAt");
        SharedStates x = new SharedStates();
        x.write(0, 8, 1);
        x.write(0, 40, 2);
        due("blockAt(1, 0)", x.blockAt(1, 0), 0);
        due("blockAt(1, 1)", x.blockAt(1, 1), 1);
        due("blockAt(1, 5)", x.blockAt(1, 5), 0);
        due("blockAt(2, 5)", x.blockAt(2, 5), 2);
        due("blockAt(2, 6)", x.blockAt(2, 6), INVALID);
        due("blockAt(3, 0)", x.blockAt(3, 0), INVALID);
        for (int number : WRONG) {
            due("blockAt(" + number + ", 0)", x.blockAt(number, 0), INVALID);
            due("blockAt(0, " + number + ")", x.blockAt(0, number), INVALID);
        }
    }

    private static void promise16() {
        begin("16, blockOf");
        SharedStates x = new SharedStates();
        x.set(0, 0);
        x.fill(0, 6, 4, 500);
        x.write(0, 14, 500);
        x.fill(0, 8, 8, 0);
        due("blockOf(0, 0)", x.blockOf(0, 0), 18);
        due("blockOf(0, 1)", x.blockOf(0, 1), 4);
        due("blockOf(0, 2)", x.blockOf(0, 2), 0);
        due("blockOf(0, 3)", x.blockOf(0, 3), 0);
        due("blockOf(0, 4), a higher one", x.blockOf(0, 4), 4);
        due("blockOf(4, 4), a lower one", x.blockOf(4, 4), 0);
        due("blockOf(1, 0)", x.blockOf(1, 0), 3);
        due("blockOf(1, 1)", x.blockOf(1, 1), 3);
        due("blockOf(1, 2)", x.blockOf(1, 2), 1000);
        due("blockOf(1, 3)", x.blockOf(1, 3), 192);
        due("blockOf(1, 4)", x.blockOf(1, 4), MISSING);
        due("blockOf(3, 3)", x.blockOf(3, 3), 67);
        due("blockOf(5, 0)", x.blockOf(5, 0), INVALID);
        due("blockOf(40, 0)", x.blockOf(40, 0), INVALID);
        due("blockOf(0, 5)", x.blockOf(0, 5), INVALID);
        due("blockOf(1, 5)", x.blockOf(1, 5), INVALID);
        for (int number : WRONG) {
            due("blockOf(" + number + ", 0)", x.blockOf(number, 0), INVALID);
            due("blockOf(0, " + number + ")", x.blockOf(0, number), INVALID);
        }
        SharedStates y = withManyBlocks();
        y.fill(0, 0, 24, 9);
        due("blockOf(39, 2)", y.blockOf(39, 2), 72);
        due("blockOf(39, 4)", y.blockOf(39, 4), 37);
    }

    private static void promise17() {
        begin("17, head");
        SharedStates x = new SharedStates();
        x.write(0, 0, 1);
        x.branch(0);
        due("head(0)", x.head(0), 1);
        due("head(1)", x.head(1), 0);
        x.write(1, 0, 1);
        due("head(1)", x.head(1), 2);
        due("head(2)", x.head(2), INVALID);
        due("head(4)", x.head(4), INVALID);
        for (int number : WRONG) {
            due("head(" + number + ")", x.head(number), INVALID);
        }
    }

    private static void promise18() {
        begin("18, unlike");
        SharedStates x = withTwoBranches();
        due("unlike(1, 3, 0)", x.unlike(1, 3, 0), 3);
        due("unlike(0, 1, 0)", x.unlike(0, 1, 0), 3);
        due("unlike(1, 3, 1)", x.unlike(1, 3, 1), 0);
        due("unlike(2, 3, 1)", x.unlike(2, 3, 1), 1);
        due("unlike(1, 3, 2)", x.unlike(1, 3, 2), 1);
        due("unlike(1, 3, 3)", x.unlike(1, 3, 3), 0);
        due("unlike(3, 1, 3)", x.unlike(3, 1, 3), 0);
        due("unlike(2, 3, 3)", x.unlike(2, 3, 3), 2);
        due("unlike(3, 2, 3)", x.unlike(3, 2, 3), 2);
        due("unlike(3, 3, 3)", x.unlike(3, 3, 3), 3);
        due("unlike(3, 3, 1)", x.unlike(3, 3, 1), MISSING);
        x.set(0, 0);
        x.fill(0, 0, 3, 0);
        due("unlike(4, 0, 0), like by another block", x.unlike(4, 0, 0), 0);
        due("unlike(4, 0, 2)", x.unlike(4, 0, 2), 1);
        x.forget(2);
        due("unlike(4, 3, 3)", x.unlike(4, 3, 3), 0);
        due("unlike(2, 0, 0)", x.unlike(2, 0, 0), INVALID);
        due("unlike(0, 5, 0)", x.unlike(0, 5, 0), INVALID);
        due("unlike(0, 0, 4)", x.unlike(0, 0, 4), INVALID);
        for (int number : WRONG) {
            due("unlike(" + number + ", 0, 1)", x.unlike(number, 0, 1), INVALID);
            due("unlike(0, " + number + ", 1)", x.unlike(0, number, 1), INVALID);
            due("unlike(0, 0, " + number + ")", x.unlike(0, 0, number), INVALID);
        }
    }

    private static void promise19() {
        begin("19, like");
        SharedStates x = new SharedStates();
        due("like(0)", x.like(0), MISSING);
        x.set(0, 0);
        x.write(0, 47, 1);
        x.write(0, 47, 0);
        x.write(0, 47, 1);
        x.write(0, 47, 1);
        due("like(0)", x.like(0), 2);
        due("like(2)", x.like(2), 0);
        due("like(1)", x.like(1), 3);
        due("like(3)", x.like(3), 1);
        due("like(4)", x.like(4), 1);
        due("like(5)", x.like(5), INVALID);
        for (int number : WRONG) {
            due("like(" + number + ")", x.like(number), INVALID);
        }
    }

    private static void promise20() {
        begin("20, before");
        SharedStates x = new SharedStates();
        x.write(0, 5, 1);
        x.write(0, 5, 2);
        x.write(0, 6, 1);
        x.branch(1);
        x.write(1, 5, 2);
        due("before(3, 5)", x.before(3, 5), 1);
        due("before(3, 6)", x.before(3, 6), 2);
        due("before(4, 5), not by the other branch", x.before(4, 5), 1);
        due("before(1, 5)", x.before(1, 5), 0);
        due("before(3, 7)", x.before(3, 7), MISSING);
        due("before(0, 5)", x.before(0, 5), MISSING);
        x.forget(1);
        due("before(3, 5)", x.before(3, 5), 0);
        due("before(1, 5)", x.before(1, 5), INVALID);
        due("before(3, 48)", x.before(3, 48), INVALID);
        for (int number : WRONG) {
            due("before(" + number + ", 0)", x.before(number, 0), INVALID);
            due("before(0, " + number + ")", x.before(0, number), INVALID);
        }
    }

    private static void promise21() {
        begin("21, conflicts");
        due("conflicts(0, 0) of a new object", new SharedStates().conflicts(0, 0), 0);
        SharedStates x = withTwoBranches();
        due("conflicts(0, 3)", x.conflicts(0, 3), 1);
        due("conflicts(0, 2), the same value is none", x.conflicts(0, 2), 0);
        due("conflicts(1, 1)", x.conflicts(1, 1), 1);
        due("conflicts(0, 0)", x.conflicts(0, 0), 0);
        due("conflicts(0, 1)", x.conflicts(0, 1), 0);
        due("count(8), nothing was merged", x.count(8), 0);
        due("count(0)", x.count(0), 4);
        due("count(9)", x.count(9), 4);
        due("conflicts(2, 0)", x.conflicts(2, 0), INVALID);
        due("conflicts(0, 4)", x.conflicts(0, 4), INVALID);
        for (int number : WRONG) {
            due("conflicts(" + number + ", 0)", x.conflicts(number, 0), INVALID);
            due("conflicts(0, " + number + ")", x.conflicts(0, number), INVALID);
        }
        due("conflicts with 16 states", withAllStates().conflicts(0, 3), 0);
    }

    private static void promise22() {
        begin("22, frees");
        SharedStates x = new SharedStates();
        due("frees(0)", x.frees(0), IMPOSSIBLE);
        x.fill(0, 0, 48, 1);
        x.fill(0, 0, 8, 2);
        due("frees(1), its block is at other places of state 2", x.frees(1), 0);
        x.fill(0, 8, 40, 3);
        due("frees(2)", x.frees(2), 0);
        due("frees(3)", x.frees(3), IMPOSSIBLE);
        x.forget(1);
        due("frees(2), one block at five places", x.frees(2), 1);
        due("forget(2)", x.forget(2), 1);
        due("frees(2)", x.frees(2), INVALID);
        due("frees(4)", x.frees(4), INVALID);
        for (int number : WRONG) {
            due("frees(" + number + ")", x.frees(number), INVALID);
        }
    }

    private static void promise23() {
        begin("23, heaviest");
        SharedStates x = new SharedStates();
        due("heaviest(0)", x.heaviest(0), MISSING);
        due("heaviest(1)", x.heaviest(1), MISSING);
        x.write(0, 0, 0);
        due("heaviest(0), only where a branch stands", x.heaviest(0), MISSING);
        x.fill(0, 0, 16, 1);
        due("heaviest(0), that frees none", x.heaviest(0), 1);
        due("heaviest(1)", x.heaviest(1), 0);
        x.fill(0, 0, 8, 2);
        x.fill(0, 0, 9, 3);
        x.write(0, 0, 4);
        x.write(0, 0, 5);
        due("heaviest(0), of several the lowest", x.heaviest(0), 3);
        due("heaviest(1)", x.heaviest(1), 1);
        x.write(0, 8, 5);
        x.back(0);
        x.back(0);
        x.back(0);
        due("heaviest(0)", x.heaviest(0), 3);
        x.write(0, 47, 5);
        x.write(0, 47, 6);
        x.forget(6);
        due("heaviest(0)", x.heaviest(0), 7);
        due("heaviest(1)", x.heaviest(1), 2);
        due("heaviest(2)", x.heaviest(2), INVALID);
        for (int number : WRONG) {
            due("heaviest(" + number + ")", x.heaviest(number), INVALID);
        }
    }

    private static void promise24() {
        begin("24, count");
        SharedStates x = new SharedStates();
        x.branch(0);
        x.fill(0, 0, 16, 5);
        x.set(0, 0);
        x.fill(1, 0, 16, 6);
        x.merge(0, 2);
        x.write(0, 47, 1);
        x.forget(3);
        x.type('w');
        int[] counts = {4, 2, 5, 24, 1, 5, 5, 1, 16, 4, 1};
        for (int what = 0; what < counts.length; what++) {
            due("count(" + what + ")", x.count(what), counts[what]);
        }
        due("count(20)", x.count(20), 0);
        for (int number : WRONG) {
            due("count(" + number + ")", x.count(number), INVALID);
        }
        for (int what = 11; what < 20; what++) {
            due("count(" + what + ")", x.count(what), INVALID);
        }
        due("count(21)", x.count(21), INVALID);
    }

    private static void promise25() {
        begin("25, undo");
        SharedStates x = new SharedStates();
        due("undo()", x.undo(), IMPOSSIBLE);
        due("write", x.write(0, 0, 1), 1);
        due("branch", x.branch(1), 1);
        due("write", x.write(1, 0, 2), 2);
        due("merge", x.merge(1, 0), 0);
        due("set", x.set(0, 0), 1);
        due("an error is no change", x.set(1, 0), INVALID);
        x.type('b');
        due("count(9)", x.count(9), 4);
        due("undo() of set", x.undo(), 3);
        due("count(20)", x.count(20), 1);
        due("the text stays", x.count(10), 1);
        due("undo() of merge", x.undo(), 2);
        due("head(1)", x.head(1), 2);
        due("undo() of write", x.undo(), 1);
        due("count(5)", x.count(5), 2);
        due("count(6)", x.count(6), 2);
        due("read(2, 0)", x.read(2, 0), INVALID);
        due("head(1)", x.head(1), 1);
        due("undo() of branch", x.undo(), 0);
        due("head(1)", x.head(1), INVALID);
        due("undo(), the fifth is dropped", x.undo(), IMPOSSIBLE);
        due("head(0)", x.head(0), 1);
        due("write, the number is free again", x.write(0, 0, 3), 2);
        due("undo()", x.undo(), 0);
        undoOthers();
    }

    private static void undoOthers() {
        SharedStates x = withTwoBranches();
        x.set(0, 0);
        x.fill(0, 40, 8, 0);
        due("leave(1)", x.leave(1), 1);
        due("undo() of leave", x.undo(), 3);
        due("head(1)", x.head(1), 3);
        due("back(1)", x.back(1), 2);
        due("undo() of back", x.undo(), 3);
        due("head(1)", x.head(1), 3);
        due("forget(2)", x.forget(2), 1);
        due("undo() of forget", x.undo(), 3);
        due("stateOf(3, 0)", x.stateOf(3, 0), 2);
        due("read(2, 3)", x.read(2, 3), 5);
        due("copy(0, 0, 0, 0, 8)", x.copy(0, 0, 0, 0, 8), 5);
        due("blockAt(5, 0)", x.blockAt(5, 0), 4);
        due("share()", x.share(), 1);
        due("undo() of share", x.undo(), 3);
        due("blockAt(5, 0)", x.blockAt(5, 0), 4);
        due("blockOf(4, 0)", x.blockOf(4, 0), 1);
        due("undo() of copy", x.undo(), 2);
        due("merge(0, 3)", x.merge(0, 3), 1);
        due("count(8)", x.count(8), 1);
        due("undo() of merge", x.undo(), 2);
        due("count(8)", x.count(8), 0);
        typeAll(x, "w0,0,1;w0,0,2;");
        due("play()", x.play(), 2);
        due("undo() of play, one change", x.undo(), 2);
        due("head(0)", x.head(0), 4);
    }

    private static void promise26() {
        begin("26, type");
        SharedStates x = new SharedStates();
        due("type(31)", x.type(31), INVALID);
        due("type(127)", x.type(127), INVALID);
        due("type(32)", x.type(32), 1);
        due("type(126)", x.type(126), 2);
        for (int number : WRONG) {
            due("type(" + number + ")", x.type(number), INVALID);
        }
        for (int length = 3; length <= 60; length++) {
            due("type('b')", x.type('b'), length);
        }
        due("type('b') with 60", x.type('b'), LIMIT);
        due("type(31) is invalid first", x.type(31), INVALID);
        due("count(10)", x.count(10), 60);
        due("count(9), no change", x.count(9), 0);
    }

    private static void promise27() {
        begin("27, clearText");
        SharedStates x = new SharedStates();
        due("clearText()", x.clearText(), 0);
        typeAll(x, "b0");
        due("clearText()", x.clearText(), 2);
        due("count(10)", x.count(10), 0);
        due("fault(0)", x.fault(0), MISSING);
        due("type(98)", x.type(98), 1);
        due("count(9), no change", x.count(9), 0);
    }

    private static void dueFault(String text, int position, int reason, int cause) {
        SharedStates x = new SharedStates();
        typeAll(x, text);
        int[] want = {position, reason, cause};
        for (int what = 0; what < 3; what++) {
            due("fault(" + what + ") of \"" + text + "\"", x.fault(what), want[what]);
        }
        due("play() of \"" + text + "\"", x.play(), position == MISSING ? x.count(5) - 1 : IMPOSSIBLE);
        due("changes by \"" + text + "\"", x.count(9), position == MISSING ? 1 : 0);
    }

    private static void promise28() {
        begin("28, fault");
        dueFault("", MISSING, MISSING, MISSING);
        dueFault("w0,3,5;f000,047,01,999;m0,0;", MISSING, MISSING, MISSING);
        dueFault("q", 0, 1, 0);
        dueFault(";", 0, 1, 0);
        dueFault("W0,0,0;", 0, 1, 0);
        dueFault("w", 0, 1, 1);
        dueFault("w,", 0, 1, 1);
        dueFault("w0", 0, 1, 2);
        dueFault("w0;", 0, 1, 2);
        dueFault("w0000,1,1;", 0, 1, 4);
        dueFault("w0,0", 0, 1, 4);
        dueFault("w0,0;", 0, 1, 4);
        dueFault("w0,0,", 0, 1, 5);
        dueFault("w0,0,1", 0, 1, 6);
        dueFault("w0,0,1,", 0, 1, 6);
        dueFault("w0,0,1000;", 0, 1, 8);
        dueFault("w-1,0,0;", 0, 1, 1);
        dueFault("w 0,0,0;", 0, 1, 1);
        dueFault("f0,0,1;", 0, 1, 6);
        dueFault("f0,0,1,2,", 0, 1, 8);
        dueFault("b0,", 0, 1, 2);
        dueFault("m0;", 0, 1, 2);
        dueFault("m0,0,", 0, 1, 4);
        dueFault("x1 ;", 0, 1, 2);
        dueFault("w0,0,1; w0,0,1;", 7, 1, 0);
        dueFault("w0,0,1;w0,0,1", 7, 1, 6);
        dueFault("w1,0,1;q", 0, 2, INVALID);
        dueFault("w0,48,1;", 0, 2, INVALID);
        dueFault("f0,47,2,1;", 0, 2, INVALID);
        dueFault("f0,0,0,1;", 0, 2, INVALID);
        dueFault("b1;", 0, 2, INVALID);
        dueFault("m0,1;", 0, 2, INVALID);
        dueFault("x1;", 0, 2, INVALID);
        dueFault("x0;", 0, 2, IMPOSSIBLE);
        dueFault("w0,0,1;x1;", 7, 2, IMPOSSIBLE);
        dueFault("w0,0,1;w0,0,2;x1;x1;", 17, 2, INVALID);
        dueFault("b0;b0;b000;b0;", 11, 2, LIMIT);
        dueFault("b1;b0", 0, 2, INVALID);
        faultLimits();
    }

    private static void faultLimits() {
        SharedStates x = withAllStates();
        typeAll(x, "x3;w0,0,1;m0,0;");
        due("fault(0) with 16 states", x.fault(0), 10);
        due("fault(1)", x.fault(1), 2);
        due("fault(2)", x.fault(2), LIMIT);
        due("nothing was done", x.count(5), 16);
        due("state 3 is there", x.read(3, 0), 3);
        due("no change", x.count(9), 4);
        due("fault(3)", x.fault(3), INVALID);
        for (int number : WRONG) {
            due("fault(" + number + ")", x.fault(number), INVALID);
        }
        x.clearText();
        due("fault(-1) of no text", x.fault(-1), INVALID);
        x.undo();
        typeAll(x, "w0,0,1;");
        due("fault(0), by what there is now", x.fault(0), MISSING);
        x.clearText();
        typeAll(x, "w0");
        due("fault(1), not by what was cleared", x.fault(1), 1);
        due("fault(2)", x.fault(2), 2);
    }

    private static void promise29() {
        begin("29, play");
        SharedStates x = new SharedStates();
        due("play() of no text", x.play(), 0);
        due("count(9), a change all the same", x.count(9), 1);
        typeAll(x, "b0;w0,3,5;f1,2,3,7;m0,2;x1;");
        due("play()", x.play(), 5);
        due("count(9), one change", x.count(9), 2);
        due("the text stays", x.count(10), 27);
        due("head(0)", x.head(0), 3);
        due("head(1)", x.head(1), 2);
        due("count(8)", x.count(8), 1);
        due("read(3, 2)", x.read(3, 2), 7);
        due("read(3, 3)", x.read(3, 3), 5);
        due("stateOf(3, 0)", x.stateOf(3, 0), 0);
        due("play() again, state 1 is gone", x.play(), IMPOSSIBLE);
        due("nothing was done", x.count(5), 4);
        due("count(1)", x.count(1), 2);
        due("count(9)", x.count(9), 2);
        due("undo()", x.undo(), 1);
        due("play() once more", x.play(), 5);
        x.clearText();
        typeAll(x, "w0,0,1;w0,0,");
        due("play() of a broken one", x.play(), IMPOSSIBLE);
        due("head(0)", x.head(0), 3);
        SharedStates y = new SharedStates();
        typeAll(y, "b0;b0;b0;x0;x0;x0;x0;x0;x0;x0;x0;x0;x0;x0;x0;x0;x0;x0;x0;x0;");
        due("fault(0) of 60 characters", y.fault(0), 9);
        y.clearText();
        typeAll(y, "w0,1,1;w0,2,1;w0,3,1;w0,4,1;w0,5,1;w0,6,1;w0,7,1;w0,8,111;");
        due("play() of 59 characters", y.play(), 8);
        due("count(9)", y.count(9), 1);
        due("undo()", y.undo(), 0);
        due("count(0)", y.count(0), 1);
    }

    public static void main(String[] args) {
        constants();
        promise1();
        promise2();
        promise3();
        promise4();
        promise5();
        promise6();
        promise7();
        promise8();
        promise9();
        promise10();
        promise11();
        promise12();
        promise13();
        promise14();
        promise15();
        promise16();
        promise17();
        promise18();
        promise19();
        promise20();
        promise21();
        promise22();
        promise23();
        promise24();
        promise25();
        promise26();
        promise27();
        promise28();
        promise29();
        finish("all promises hold");
    }
}
