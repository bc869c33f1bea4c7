/**
 * A row of cells that keeps its past states by sharing blocks.
 *
 * A change is tried out in a second world, a copy of the one that counts, and the two change
 * places only if it went well: so a call that returns an error changes nothing, and what a change
 * leaves behind is its record of the history.
 */
public final class SharedStates {
    public static final int INVALID_ARGUMENT = -1000001;
    public static final int NOT_POSSIBLE = -1000002;
    public static final int LIMIT_REACHED = -1000003;
    public static final int NOT_FOUND = -1000004;

    private static final int CELLS = 48;
    private static final int BLOCK_CELLS = 8;
    private static final int PLACES = 6;
    private static final int MAX_VALUE = 999;
    private static final int MAX_BLOCKS = 40;
    private static final int MAX_STATES = 16;
    private static final int MAX_BRANCHES = 4;
    private static final int MAX_RECORDS = 4;
    private static final int MAX_TEXT = 60;
    private static final int MAX_DIGITS = 3;
    private static final int FIRST_SIGN = 32;
    private static final int LAST_SIGN = 126;
    private static final int NONE = -1;

    private World world;
    private World trial;
    private final History history;
    private final Orders orders;

    public SharedStates() {
        world = new World();
        trial = new World();
        history = new History();
        orders = new Orders();
    }

    // ---- writes

    public int write(int branch, int cell, int value) {
        return keepTrial(startTrial().fillCells(branch, cell, 1, value));
    }

    public int fill(int branch, int cell, int many, int value) {
        return keepTrial(startTrial().fillCells(branch, cell, many, value));
    }

    public int copy(int branch, int state, int from, int to, int many) {
        return keepTrial(startTrial().copyCells(branch, state, from, to, many));
    }

    public int merge(int branch, int state) {
        return keepTrial(startTrial().mergeState(branch, state));
    }

    // ---- branches, states

    public int branch(int state) {
        return keepTrial(startTrial().addBranch(state));
    }

    public int leave(int branch) {
        return keepTrial(startTrial().dropBranch(branch));
    }

    public int back(int branch) {
        return keepTrial(startTrial().stepBack(branch));
    }

    public int forget(int state) {
        return keepTrial(startTrial().forgetState(state));
    }

    public int share() {
        return keepTrial(startTrial().shareBlocks());
    }

    public int set(int what, int value) {
        return keepTrial(startTrial().changeSetting(what, value));
    }

    // ---- what there is

    public int read(int state, int cell) {
        int slot = world.states.slotOf(state);
        if (slot < 0 || !isIndex(cell, CELLS)) {
            return INVALID_ARGUMENT;
        }
        return world.cellAt(slot, cell);
    }

    public int stateOf(int state, int what) {
        int slot = world.states.slotOf(state);
        if (slot < 0) {
            return INVALID_ARGUMENT;
        }
        switch (what) {
            case 0:
                return foundOr(world.states.parentOf(slot));
            case 1:
                return world.states.childrenOf(slot);
            case 2:
                return world.states.stepsFrom(slot);
            case 3:
                return world.sumOfState(slot);
            case 4:
                return slot == 0 ? NOT_FOUND : world.states.unlikePlaces(slot, world.states.parentSlot(slot));
            case 5:
                return world.placesOfItsOwn(slot);
            case 6:
                return world.states.blocksIn(slot);
            case 7:
                return world.branchesAt(state);
            default:
                return INVALID_ARGUMENT;
        }
    }

    public int number(int index) {
        if (index < 0) {
            return INVALID_ARGUMENT;
        }
        return foundOr(world.states.numberOf(index));
    }

    public int blockAt(int state, int place) {
        int slot = world.states.slotOf(state);
        if (slot < 0 || !isIndex(place, PLACES)) {
            return INVALID_ARGUMENT;
        }
        return world.states.block(slot, place);
    }

    public int blockOf(int block, int what) {
        if (!world.blocks.isThere(block)) {
            return INVALID_ARGUMENT;
        }
        switch (what) {
            case 0:
                return world.blocks.usesOf(block);
            case 1:
                return world.states.statesWith(block);
            case 2:
                return world.blocks.sumOf(block);
            case 3:
                return world.blocks.nonZeroCells(block);
            case 4:
                return foundOr(world.blocks.lowestOtherLike(block));
            default:
                return INVALID_ARGUMENT;
        }
    }

    public int head(int branch) {
        return world.isBranch(branch) ? world.heads[branch] : INVALID_ARGUMENT;
    }

    public int unlike(int one, int other, int what) {
        int oneSlot = world.states.slotOf(one);
        int otherSlot = world.states.slotOf(other);
        if (oneSlot < 0 || otherSlot < 0) {
            return INVALID_ARGUMENT;
        }
        switch (what) {
            case 0:
                return world.unlikeCells(oneSlot, otherSlot);
            case 1:
                return foundOr(world.firstUnlikeCell(oneSlot, otherSlot));
            case 2:
                return world.states.unlikePlaces(oneSlot, otherSlot);
            case 3:
                return world.states.numberOf(world.states.commonSlot(oneSlot, otherSlot));
            default:
                return INVALID_ARGUMENT;
        }
    }

    public int like(int state) {
        int slot = world.states.slotOf(state);
        if (slot < 0) {
            return INVALID_ARGUMENT;
        }
        for (int other = 0; other < world.states.size; other++) {
            if (other != slot && world.firstUnlikeCell(slot, other) == NONE) {
                return world.states.numberOf(other);
            }
        }
        return NOT_FOUND;
    }

    public int before(int state, int cell) {
        int slot = world.states.slotOf(state);
        if (slot < 0 || !isIndex(cell, CELLS)) {
            return INVALID_ARGUMENT;
        }
        int value = world.cellAt(slot, cell);
        for (int step = 0; step < MAX_STATES && slot >= 0; step++) {
            if (world.cellAt(slot, cell) != value) {
                return world.states.numberOf(slot);
            }
            slot = world.states.parentSlot(slot);
        }
        return NOT_FOUND;
    }

    // ---- what would be

    public int conflicts(int branch, int state) {
        int slot = world.headSlot(branch);
        int merged = world.states.slotOf(state);
        if (slot < 0 || merged < 0) {
            return INVALID_ARGUMENT;
        }
        return world.draftMerge(world.states.commonSlot(slot, merged), slot, merged);
    }

    public int frees(int state) {
        int slot = world.states.slotOf(state);
        if (slot < 0) {
            return INVALID_ARGUMENT;
        }
        return world.canForget(slot) ? world.blocksOfItsOwn(slot) : NOT_POSSIBLE;
    }

    public int heaviest(int what) {
        if (!isIndex(what, 2)) {
            return INVALID_ARGUMENT;
        }
        int best = NONE;
        int most = NONE;
        for (int slot = 0; slot < world.states.size; slot++) {
            int freed = world.canForget(slot) ? world.blocksOfItsOwn(slot) : NONE;
            if (freed > most) {
                most = freed;
                best = world.states.numberOf(slot);
            }
        }
        return foundOr(what == 0 ? best : most);
    }

    public int count(int what) {
        switch (what) {
            case 0:
                return world.states.size;
            case 1:
                return world.branchesThere();
            case 2:
                return world.blocks.there();
            case 3:
                return world.states.size * PLACES;
            case 4:
                return world.blocks.doubles();
            case 5:
                return world.states.made;
            case 6:
                return world.blocks.made;
            case 7:
                return world.blocks.taken;
            case 8:
                return world.conflictsSoFar;
            case 9:
                return history.size;
            case 10:
                return orders.length;
            case 20:
                return world.sharing;
            default:
                return INVALID_ARGUMENT;
        }
    }

    public int undo() {
        if (history.size == 0) {
            return NOT_POSSIBLE;
        }
        world = history.exchangeLatest(world);
        return history.size;
    }

    // ---- texts

    public int type(int character) {
        if (character < FIRST_SIGN || character > LAST_SIGN) {
            return INVALID_ARGUMENT;
        }
        return orders.append(character) ? orders.length : LIMIT_REACHED;
    }

    public int clearText() {
        int had = orders.length;
        orders.length = 0;
        return had;
    }

    public int fault(int what) {
        if (!isIndex(what, 3)) {
            return INVALID_ARGUMENT;
        }
        if (orders.doAll(startTrial())) {
            return NOT_FOUND;
        }
        switch (what) {
            case 0:
                return orders.faultPosition;
            case 1:
                return orders.faultReason;
            default:
                return orders.faultCause;
        }
    }

    public int play() {
        return keepTrial(orders.doAll(startTrial()) ? orders.done : NOT_POSSIBLE);
    }

    // ---- trials

    private World startTrial() {
        trial.becomeLike(world);
        return trial;
    }

    private int keepTrial(int answer) {
        if (answer >= 0) {
            World past = world;
            world = trial;
            trial = history.add(past);
        }
        return answer;
    }

    private static boolean isIndex(int index, int many) {
        return index >= 0 && index < many;
    }

    private static boolean isRange(int first, int many) {
        // many is compared with what is left, as first + many could wrap around
        return isIndex(first, CELLS) && many >= 1 && many <= CELLS - first;
    }

    private static int foundOr(int number) {
        return number >= 0 ? number : NOT_FOUND;
    }

    /** The blocks by their numbers; a block is there as long as a place of a state uses it. */
    private static final class Blocks {
        final int[] cells = new int[MAX_BLOCKS * BLOCK_CELLS];
        final int[] uses = new int[MAX_BLOCKS];
        int made = 1;
        int taken = 0;

        Blocks() {
            uses[0] = PLACES;
        }

        void becomeLike(Blocks other) {
            System.arraycopy(other.cells, 0, cells, 0, cells.length);
            System.arraycopy(other.uses, 0, uses, 0, uses.length);
            made = other.made;
            taken = other.taken;
        }

        int usesOf(int block) {
            return isIndex(block, MAX_BLOCKS) ? uses[block] : 0;
        }

        void addUses(int block, int many) {
            if (isIndex(block, MAX_BLOCKS)) {
                uses[block] += many;
            }
        }

        boolean isThere(int block) {
            return block >= 0 && block < MAX_BLOCKS && uses[block] > 0;
        }

        int cellOf(int block, int cell) {
            int index = block * BLOCK_CELLS + cell;
            return index >= 0 && index < cells.length ? cells[index] : 0;
        }

        int there() {
            int many = 0;
            for (int block = 0; block < MAX_BLOCKS; block++) {
                many += isThere(block) ? 1 : 0;
            }
            return many;
        }

        /** Whether a block is there and has the eight values of the row from a start on. */
        boolean holds(int block, int[] row, int start) {
            if (block < 0 || block >= MAX_BLOCKS || uses[block] == 0) {
                return false;
            }
            if (start < 0 || start > row.length - BLOCK_CELLS) {
                return false;
            }
            for (int i = 0; i < BLOCK_CELLS; i++) {
                if (cells[block * BLOCK_CELLS + i] != row[start + i]) {
                    return false;
                }
            }
            return true;
        }

        int lowestHolding(int[] row, int start) {
            for (int block = 0; block < MAX_BLOCKS; block++) {
                if (holds(block, row, start)) {
                    return block;
                }
            }
            return NONE;
        }

        int lowestOtherLike(int block) {
            for (int other = 0; other < MAX_BLOCKS; other++) {
                if (other != block && holds(other, cells, block * BLOCK_CELLS)) {
                    return other;
                }
            }
            return NONE;
        }

        /** Makes a block of the row's eight values; NONE if there are too many. */
        int make(int[] row, int start) {
            if (start < 0 || start > row.length - BLOCK_CELLS) {
                return NONE;
            }
            for (int block = 0; block < MAX_BLOCKS; block++) {
                if (uses[block] == 0) {
                    System.arraycopy(row, start, cells, block * BLOCK_CELLS, BLOCK_CELLS);
                    made++;
                    return block;
                }
            }
            return NONE;
        }

        int sumOf(int block) {
            int sum = 0;
            for (int i = 0; i < BLOCK_CELLS; i++) {
                sum += cellOf(block, i);
            }
            return sum;
        }

        int nonZeroCells(int block) {
            int set = 0;
            for (int i = 0; i < BLOCK_CELLS; i++) {
                if (cellOf(block, i) != 0) {
                    set |= 1 << i;
                }
            }
            return set;
        }

        /** How many blocks are like one with a lower number. */
        int doubles() {
            int many = 0;
            for (int block = 0; block < MAX_BLOCKS; block++) {
                if (isThere(block) && lowestHolding(cells, block * BLOCK_CELLS) < block) {
                    many++;
                }
            }
            return many;
        }
    }

    /** The states in slots, in the order of their numbers, so that a parent's slot is a lower one. */
    private static final class States {
        final int[] numbers = new int[MAX_STATES];
        final int[] parents = new int[MAX_STATES];
        final int[] places = new int[MAX_STATES * PLACES];
        int size = 1;
        int made = 1;

        States() {
            parents[0] = NONE;
        }

        void becomeLike(States other) {
            System.arraycopy(other.numbers, 0, numbers, 0, numbers.length);
            System.arraycopy(other.parents, 0, parents, 0, parents.length);
            System.arraycopy(other.places, 0, places, 0, places.length);
            size = other.size;
            made = other.made;
        }

        int slotOf(int number) {
            for (int slot = 0; slot < size; slot++) {
                if (numbers[slot] == number) {
                    return slot;
                }
            }
            return NONE;
        }

        int numberOf(int slot) {
            return slot >= 0 && slot < size ? numbers[slot] : NONE;
        }

        int parentOf(int slot) {
            return slot >= 0 && slot < size ? parents[slot] : NONE;
        }

        int parentSlot(int slot) {
            return slotOf(parentOf(slot));
        }

        int block(int slot, int place) {
            boolean isThere = slot >= 0 && slot < size && place >= 0 && place < PLACES;
            return isThere ? places[slot * PLACES + place] : NONE;
        }

        /** Makes a state of the places that have been put behind the last slot. */
        int add(int parent) {
            numbers[size] = made;
            parents[size] = parent;
            size++;
            made++;
            return made - 1;
        }

        void remove(int slot) {
            if (!isIndex(slot, size)) {
                return;
            }
            for (int child = slot + 1; child < size; child++) {
                if (parents[child] == numbers[slot]) {
                    parents[child] = parents[slot];
                }
            }
            int behind = size - slot - 1;
            System.arraycopy(numbers, slot + 1, numbers, slot, behind);
            System.arraycopy(parents, slot + 1, parents, slot, behind);
            System.arraycopy(places, (slot + 1) * PLACES, places, slot * PLACES, behind * PLACES);
            size--;
        }

        int childrenOf(int slot) {
            int many = 0;
            for (int child = slot + 1; child < size; child++) {
                many += parents[child] == numberOf(slot) ? 1 : 0;
            }
            return many;
        }

        int stepsFrom(int slot) {
            int steps = 0;
            int at = slot;
            for (int i = 0; i < MAX_STATES && at > 0; i++) {
                at = parentSlot(at);
                steps++;
            }
            return steps;
        }

        int commonSlot(int one, int other) {
            int low = one;
            int high = other;
            // each step leads the higher one down, so both meet at slot 0 at the latest
            for (int i = 0; i < 2 * MAX_STATES && low != high; i++) {
                if (low > high) {
                    low = parentSlot(low);
                } else {
                    high = parentSlot(high);
                }
            }
            return low;
        }

        int unlikePlaces(int one, int other) {
            int many = 0;
            for (int place = 0; place < PLACES; place++) {
                many += block(one, place) != block(other, place) ? 1 : 0;
            }
            return many;
        }

        int placesWith(int slot, int block) {
            int many = 0;
            for (int place = 0; place < PLACES; place++) {
                many += block(slot, place) == block ? 1 : 0;
            }
            return many;
        }

        int statesWith(int block) {
            int many = 0;
            for (int slot = 0; slot < size; slot++) {
                many += placesWith(slot, block) > 0 ? 1 : 0;
            }
            return many;
        }

        boolean isFirstPlace(int slot, int place) {
            for (int earlier = 0; earlier < place; earlier++) {
                if (block(slot, earlier) == block(slot, place)) {
                    return false;
                }
            }
            return true;
        }

        int blocksIn(int slot) {
            int many = 0;
            for (int place = 0; place < PLACES; place++) {
                many += isFirstPlace(slot, place) ? 1 : 0;
            }
            return many;
        }
    }

    /** All that a change can change, and so all that a record of the history keeps. */
    private static final class World {
        final Blocks blocks = new Blocks();
        final States states = new States();
        final int[] heads = new int[MAX_BRANCHES];
        final int[] draft = new int[CELLS];
        int sharing = 1;
        int conflictsSoFar = 0;

        World() {
            for (int branch = 1; branch < MAX_BRANCHES; branch++) {
                heads[branch] = NONE;
            }
        }

        void becomeLike(World other) {
            blocks.becomeLike(other.blocks);
            states.becomeLike(other.states);
            System.arraycopy(other.heads, 0, heads, 0, heads.length);
            sharing = other.sharing;
            conflictsSoFar = other.conflictsSoFar;
        }

        boolean isBranch(int branch) {
            return isIndex(branch, MAX_BRANCHES) && heads[branch] != NONE;
        }

        int headSlot(int branch) {
            return isBranch(branch) ? states.slotOf(heads[branch]) : NONE;
        }

        int branchesThere() {
            int many = 0;
            for (int branch = 0; branch < MAX_BRANCHES; branch++) {
                many += heads[branch] != NONE ? 1 : 0;
            }
            return many;
        }

        int branchesAt(int state) {
            int set = 0;
            for (int branch = 0; branch < MAX_BRANCHES; branch++) {
                if (heads[branch] == state) {
                    set |= 1 << branch;
                }
            }
            return set;
        }

        int cellAt(int slot, int cell) {
            return blocks.cellOf(states.block(slot, cell / BLOCK_CELLS), cell % BLOCK_CELLS);
        }

        int sumOfState(int slot) {
            int sum = 0;
            for (int place = 0; place < PLACES; place++) {
                sum += blocks.sumOf(states.block(slot, place));
            }
            return sum;
        }

        int unlikeCells(int one, int other) {
            int many = 0;
            for (int cell = 0; cell < CELLS; cell++) {
                many += cellAt(one, cell) != cellAt(other, cell) ? 1 : 0;
            }
            return many;
        }

        int firstUnlikeCell(int one, int other) {
            for (int cell = 0; cell < CELLS; cell++) {
                if (cellAt(one, cell) != cellAt(other, cell)) {
                    return cell;
                }
            }
            return NONE;
        }

        boolean isItsOwn(int slot, int place) {
            int block = states.block(slot, place);
            return blocks.usesOf(block) == states.placesWith(slot, block);
        }

        int placesOfItsOwn(int slot) {
            int many = 0;
            for (int place = 0; place < PLACES; place++) {
                many += isItsOwn(slot, place) ? 1 : 0;
            }
            return many;
        }

        int blocksOfItsOwn(int slot) {
            int many = 0;
            for (int place = 0; place < PLACES; place++) {
                many += isItsOwn(slot, place) && states.isFirstPlace(slot, place) ? 1 : 0;
            }
            return many;
        }

        boolean canForget(int slot) {
            return slot > 0 && branchesAt(states.numberOf(slot)) == 0;
        }

        void draftState(int slot) {
            for (int cell = 0; cell < CELLS; cell++) {
                draft[cell] = cellAt(slot, cell);
            }
        }

        int fillCells(int branch, int cell, int many, int value) {
            int slot = headSlot(branch);
            if (slot < 0 || !isRange(cell, many) || !isIndex(value, MAX_VALUE + 1)) {
                return INVALID_ARGUMENT;
            }
            draftState(slot);
            for (int i = 0; i < many; i++) {
                draft[cell + i] = value;
            }
            return addDraft(branch, slot);
        }

        int copyCells(int branch, int state, int from, int to, int many) {
            int slot = headSlot(branch);
            int source = states.slotOf(state);
            if (slot < 0 || source < 0 || !isRange(from, many) || !isRange(to, many)) {
                return INVALID_ARGUMENT;
            }
            draftState(slot);
            for (int i = 0; i < many; i++) {
                draft[to + i] = cellAt(source, from + i);
            }
            return addDraft(branch, slot);
        }

        int mergeState(int branch, int state) {
            int slot = headSlot(branch);
            int merged = states.slotOf(state);
            if (slot < 0 || merged < 0) {
                return INVALID_ARGUMENT;
            }
            int many = draftMerge(states.commonSlot(slot, merged), slot, merged);
            int added = addDraft(branch, slot);
            if (added < 0) {
                return added;
            }
            conflictsSoFar += many;
            return many;
        }

        /** Drafts the merged row and tells how many cells are conflicts. */
        int draftMerge(int common, int slot, int merged) {
            int many = 0;
            for (int cell = 0; cell < CELLS; cell++) {
                int was = cellAt(common, cell);
                int here = cellAt(slot, cell);
                int there = cellAt(merged, cell);
                boolean conflict = there != was && here != was && here != there;
                draft[cell] = there == was || conflict ? here : there;
                many += conflict ? 1 : 0;
            }
            return many;
        }

        /** Makes a state of the draft for a branch; on an error the world is fit for no more use. */
        int addDraft(int branch, int slot) {
            if (states.size >= MAX_STATES) {
                return LIMIT_REACHED;
            }
            for (int place = 0; place < PLACES; place++) {
                int start = place * BLOCK_CELLS;
                int block = states.block(slot, place);
                if (!blocks.holds(block, draft, start)) {
                    int like = sharing == 1 ? blocks.lowestHolding(draft, start) : NONE;
                    blocks.taken += like >= 0 ? 1 : 0;
                    block = like >= 0 ? like : blocks.make(draft, start);
                }
                if (block < 0) {
                    return LIMIT_REACHED;
                }
                // used at once, so that the next places find it and make none with its number
                blocks.addUses(block, 1);
                states.places[states.size * PLACES + place] = block;
            }
            heads[branch] = states.add(states.numberOf(slot));
            return heads[branch];
        }

        int addBranch(int state) {
            if (states.slotOf(state) < 0) {
                return INVALID_ARGUMENT;
            }
            for (int branch = 0; branch < MAX_BRANCHES; branch++) {
                if (heads[branch] == NONE) {
                    heads[branch] = state;
                    return branch;
                }
            }
            return LIMIT_REACHED;
        }

        int dropBranch(int branch) {
            if (!isBranch(branch)) {
                return INVALID_ARGUMENT;
            }
            if (branchesThere() == 1) {
                return NOT_POSSIBLE;
            }
            heads[branch] = NONE;
            return branchesThere();
        }

        int stepBack(int branch) {
            int slot = headSlot(branch);
            if (slot < 0) {
                return INVALID_ARGUMENT;
            }
            if (slot == 0) {
                return NOT_POSSIBLE;
            }
            heads[branch] = states.parentOf(slot);
            return heads[branch];
        }

        int forgetState(int state) {
            int slot = states.slotOf(state);
            if (slot < 0) {
                return INVALID_ARGUMENT;
            }
            if (!canForget(slot)) {
                return NOT_POSSIBLE;
            }
            int had = blocks.there();
            for (int place = 0; place < PLACES; place++) {
                blocks.addUses(states.block(slot, place), -1);
            }
            states.remove(slot);
            return had - blocks.there();
        }

        int shareBlocks() {
            int had = blocks.there();
            for (int i = 0; i < states.size * PLACES; i++) {
                int block = states.places[i];
                int lowest = blocks.lowestHolding(blocks.cells, block * BLOCK_CELLS);
                if (lowest >= 0 && lowest < block) {
                    blocks.addUses(block, -1);
                    blocks.addUses(lowest, 1);
                    states.places[i] = lowest;
                }
            }
            return had - blocks.there();
        }

        int changeSetting(int what, int value) {
            if (what != 0 || !isIndex(value, 2)) {
                return INVALID_ARGUMENT;
            }
            int was = sharing;
            sharing = value;
            return was;
        }
    }

    /** The worlds as they were before the latest changes, in a ring that is made once. */
    private static final class History {
        final World[] records = new World[MAX_RECORDS];
        int oldest = 0;
        int size = 0;

        History() {
            for (int i = 0; i < MAX_RECORDS; i++) {
                records[i] = new World();
            }
        }

        /** Keeps a world and gives one in exchange that no record needs any more. */
        World add(World past) {
            int index = (oldest + size) % MAX_RECORDS;
            World spare = records[index];
            records[index] = past;
            if (size < MAX_RECORDS) {
                size++;
            } else {
                oldest = (oldest + 1) % MAX_RECORDS;
            }
            return spare;
        }

        /** Gives the world of the latest record, which goes, and takes one in exchange. */
        World exchangeLatest(World present) {
            if (size == 0) {
                return present;
            }
            size--;
            int index = (oldest + size) % MAX_RECORDS;
            World latest = records[index];
            records[index] = present;
            return latest;
        }
    }

    /** The text of orders, and what came of the last time that they were done. */
    private static final class Orders {
        final int[] signs = new int[MAX_TEXT];
        final int[] numbers = new int[4];
        int length = 0;
        int position = 0;
        int done = 0;
        int faultPosition = 0;
        int faultReason = 0;
        int faultCause = 0;

        boolean append(int sign) {
            if (length >= MAX_TEXT) {
                return false;
            }
            signs[length] = sign;
            length++;
            return true;
        }

        /** Does the orders up to the first that is not possible, whose fault is kept; tells if none was. */
        boolean doAll(World world) {
            position = 0;
            done = 0;
            for (int i = 0; i < MAX_TEXT && position < length; i++) {
                int start = position;
                if (!readOrder()) {
                    return keepFault(start, 1, position - start);
                }
                int answer = doOrder(world, signs[start]);
                if (answer < 0) {
                    return keepFault(start, 2, answer);
                }
                done++;
            }
            return true;
        }

        boolean keepFault(int start, int reason, int cause) {
            faultPosition = start;
            faultReason = reason;
            faultCause = cause;
            return false;
        }

        /** Reads an order from the position on; if it is of no right form, the position stays where it breaks off. */
        boolean readOrder() {
            int many = numbersOf(signHere());
            if (many == 0) {
                return false;
            }
            position++;
            for (int i = 0; i < many; i++) {
                if (!readNumber(i) || signHere() != (i + 1 < many ? ',' : ';')) {
                    return false;
                }
                position++;
            }
            return true;
        }

        int signHere() {
            return position < length ? signs[position] : NONE;
        }

        boolean readNumber(int index) {
            int value = 0;
            int digits = 0;
            while (digits < MAX_DIGITS && signHere() >= '0' && signHere() <= '9') {
                value = value * 10 + signHere() - '0';
                digits++;
                position++;
            }
            numbers[index] = value;
            return digits > 0;
        }

        static int numbersOf(int kind) {
            switch (kind) {
                case 'w':
                    return 3;
                case 'f':
                    return 4;
                case 'm':
                    return 2;
                case 'b':
                case 'x':
                    return 1;
                default:
                    return 0;
            }
        }

        int doOrder(World world, int kind) {
            switch (kind) {
                case 'w':
                    return world.fillCells(numbers[0], numbers[1], 1, numbers[2]);
                case 'f':
                    return world.fillCells(numbers[0], numbers[1], numbers[2], numbers[3]);
                case 'm':
                    return world.mergeState(numbers[0], numbers[1]);
                case 'b':
                    return world.addBranch(numbers[0]);
                default:
                    return world.forgetState(numbers[0]);
            }
        }
    }
}
