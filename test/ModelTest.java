import java.util.ArrayDeque;
import java.util.ArrayList;
import java.util.Arrays;
import java.util.Deque;
import java.util.HashSet;
import java.util.List;
import java.util.Random;
import java.util.Set;
import java.util.TreeMap;

/**
 * Long runs of calls, by fixed seeds, on the class and on a model that is written anew from the
 * document's words with the Java library: each answer has to be the same.
 */
public final class ModelTest {
    private static final int INVALID = -1000001;
    private static final int IMPOSSIBLE = -1000002;
    private static final int LIMIT = -1000003;
    private static final int MISSING = -1000004;
    private static final int RUNS = 600;
    private static final int CALLS = 512;
    private static final int[] EXTREMES = {
        Integer.MIN_VALUE, Integer.MIN_VALUE + 1, -1000001, -48, -2, -1, 16, 40, 47, 48, 49, 64, 100, 999, 1000,
        Integer.MAX_VALUE - 47, Integer.MAX_VALUE - 1, Integer.MAX_VALUE};

    /** Everything that a change records. */
    private static final class Picture {
        TreeMap<Integer, List<Integer>> blocks = new TreeMap<>();
        TreeMap<Integer, Integer> parents = new TreeMap<>();
        TreeMap<Integer, int[]> rows = new TreeMap<>();
        TreeMap<Integer, Integer> heads = new TreeMap<>();
        boolean sharing = true;
        int states = 1;
        int made = 1;
        int taken = 0;
        int conflicts = 0;

        Picture() {
            blocks.put(0, List.of(0, 0, 0, 0, 0, 0, 0, 0));
            parents.put(0, -1);
            rows.put(0, new int[6]);
            heads.put(0, 0);
        }

        Picture copy() {
            Picture other = new Picture();
            other.blocks = new TreeMap<>(blocks);
            other.parents = new TreeMap<>(parents);
            other.rows = new TreeMap<>();
            for (int state : rows.keySet()) {
                other.rows.put(state, rows.get(state).clone());
            }
            other.heads = new TreeMap<>(heads);
            other.sharing = sharing;
            other.states = states;
            other.made = made;
            other.taken = taken;
            other.conflicts = conflicts;
            return other;
        }

        List<Integer> cells(int state) {
            List<Integer> all = new ArrayList<>();
            for (int block : rows.get(state)) {
                all.addAll(blocks.get(block));
            }
            return all;
        }

        List<Integer> way(int state) {
            List<Integer> way = new ArrayList<>();
            for (int at = state; at != -1; at = parents.get(at)) {
                way.add(at);
            }
            return way;
        }

        int common(int one, int other) {
            List<Integer> shared = new ArrayList<>(way(one));
            shared.retainAll(way(other));
            return shared.stream().max(Integer::compare).get();
        }

        Set<Integer> used() {
            Set<Integer> used = new HashSet<>();
            for (int[] row : rows.values()) {
                for (int block : row) {
                    used.add(block);
                }
            }
            return used;
        }

        int clean() {
            int had = blocks.size();
            blocks.keySet().retainAll(used());
            return had - blocks.size();
        }

        int lowestLike(List<Integer> values) {
            for (int block : blocks.keySet()) {
                if (blocks.get(block).equals(values)) {
                    return block;
                }
            }
            return -1;
        }

        /** The new state's number, or LIMIT, and then the picture is spoilt. */
        int put(int branch, List<Integer> cells) {
            if (rows.size() == 16) {
                return LIMIT;
            }
            int parent = heads.get(branch);
            int[] row = rows.get(parent).clone();
            for (int place = 0; place < 6; place++) {
                List<Integer> values = List.copyOf(cells.subList(8 * place, 8 * place + 8));
                if (values.equals(blocks.get(row[place]))) {
                    continue;
                }
                int like = lowestLike(values);
                if (sharing && like != -1) {
                    row[place] = like;
                    taken++;
                    continue;
                }
                int number = 0;
                while (blocks.containsKey(number)) {
                    number++;
                }
                if (number >= 40) {
                    return LIMIT;
                }
                blocks.put(number, values);
                row[place] = number;
                made++;
            }
            parents.put(states, parent);
            rows.put(states, row);
            heads.put(branch, states);
            return states++;
        }

        int merged(int branch, int state, List<Integer> into) {
            List<Integer> here = cells(heads.get(branch));
            List<Integer> there = cells(state);
            List<Integer> was = cells(common(heads.get(branch), state));
            int many = 0;
            for (int cell = 0; cell < 48; cell++) {
                if (there.get(cell).equals(was.get(cell))) {
                    into.add(here.get(cell));
                } else if (here.get(cell).equals(was.get(cell)) || here.get(cell).equals(there.get(cell))) {
                    into.add(there.get(cell));
                } else {
                    into.add(here.get(cell));
                    many++;
                }
            }
            return many;
        }

        boolean forgettable(int state) {
            return state != 0 && !heads.containsValue(state);
        }

        int fill(int branch, int cell, int many, int value) {
            if (!heads.containsKey(branch) || cell < 0 || cell > 47 || many < 1 || many > 48
                || cell + many - 1 > 47 || value < 0 || value > 999) {
                return INVALID;
            }
            List<Integer> cells = cells(heads.get(branch));
            for (int i = cell; i < cell + many; i++) {
                cells.set(i, value);
            }
            return put(branch, cells);
        }

        int copyCells(int branch, int state, int from, int to, int many) {
            if (!heads.containsKey(branch) || !rows.containsKey(state) || from < 0 || from > 47 || to < 0 || to > 47
                || many < 1 || many > 48 || from + many > 48 || to + many > 48) {
                return INVALID;
            }
            List<Integer> cells = cells(heads.get(branch));
            List<Integer> source = cells(state);
            for (int i = 0; i < many; i++) {
                cells.set(to + i, source.get(from + i));
            }
            return put(branch, cells);
        }

        int merge(int branch, int state) {
            if (!heads.containsKey(branch) || !rows.containsKey(state)) {
                return INVALID;
            }
            List<Integer> cells = new ArrayList<>();
            int many = merged(branch, state, cells);
            if (put(branch, cells) == LIMIT) {
                return LIMIT;
            }
            conflicts += many;
            return many;
        }

        int branch(int state) {
            if (!rows.containsKey(state)) {
                return INVALID;
            }
            if (heads.size() == 4) {
                return LIMIT;
            }
            int name = 0;
            while (heads.containsKey(name)) {
                name++;
            }
            heads.put(name, state);
            return name;
        }

        int leave(int branch) {
            if (!heads.containsKey(branch)) {
                return INVALID;
            }
            if (heads.size() == 1) {
                return IMPOSSIBLE;
            }
            heads.remove(branch);
            return heads.size();
        }

        int back(int branch) {
            if (!heads.containsKey(branch)) {
                return INVALID;
            }
            int parent = parents.get(heads.get(branch));
            if (parent == -1) {
                return IMPOSSIBLE;
            }
            heads.put(branch, parent);
            return parent;
        }

        int forget(int state) {
            if (!rows.containsKey(state)) {
                return INVALID;
            }
            if (!forgettable(state)) {
                return IMPOSSIBLE;
            }
            int parent = parents.remove(state);
            rows.remove(state);
            parents.replaceAll((child, old) -> old == state ? parent : old);
            return clean();
        }

        int share() {
            TreeMap<Integer, List<Integer>> as = new TreeMap<>(blocks);
            for (int[] row : rows.values()) {
                for (int place = 0; place < 6; place++) {
                    row[place] = lowestLike(as.get(row[place]));
                }
            }
            return clean();
        }

        int set(int what, int value) {
            if (what != 0 || value != 0 && value != 1) {
                return INVALID;
            }
            int was = sharing ? 1 : 0;
            sharing = value == 1;
            return was;
        }
    }

    /** The whole object: the picture that counts, the history and the text. */
    private static final class Model {
        Picture now = new Picture();
        final Deque<Picture> history = new ArrayDeque<>();
        String text = "";
        int[] fault;

        int change(String name, int[] a) {
            Picture next = now.copy();
            int answer = apply(next, name, a);
            if (answer >= 0) {
                history.addLast(now);
                if (history.size() > 4) {
                    history.removeFirst();
                }
                now = next;
            }
            return answer;
        }

        int apply(Picture p, String name, int[] a) {
            switch (name) {
                case "write": return p.fill(a[0], a[1], 1, a[2]);
                case "fill": return p.fill(a[0], a[1], a[2], a[3]);
                case "copy": return p.copyCells(a[0], a[1], a[2], a[3], a[4]);
                case "merge": return p.merge(a[0], a[1]);
                case "branch": return p.branch(a[0]);
                case "leave": return p.leave(a[0]);
                case "back": return p.back(a[0]);
                case "forget": return p.forget(a[0]);
                case "share": return p.share();
                case "set": return p.set(a[0], a[1]);
                default: return doOrders(p) < 0 ? IMPOSSIBLE : (int) text.chars().filter(c -> c == ';').count();
            }
        }

        /** 0, or -1 and then the fault is told in fault. */
        int doOrders(Picture p) {
            int start = 0;
            while (start < text.length()) {
                String rest = text.substring(start);
                int breaks = breakOff(rest);
                if (breaks >= 0) {
                    fault = new int[] {start, 1, breaks};
                    return -1;
                }
                String order = rest.substring(0, rest.indexOf(';'));
                int[] n = Arrays.stream(order.substring(1).split(",")).mapToInt(Integer::parseInt).toArray();
                int answer;
                switch (order.charAt(0)) {
                    case 'w': answer = apply(p, "write", n); break;
                    case 'f': answer = apply(p, "fill", n); break;
                    case 'b': answer = apply(p, "branch", n); break;
                    case 'm': answer = apply(p, "merge", n); break;
                    default: answer = apply(p, "forget", n); break;
                }
                if (answer < 0) {
                    fault = new int[] {start, 2, answer};
                    return -1;
                }
                start += order.length() + 1;
            }
            fault = null;
            return 0;
        }

        /** Where an order at the head of a text breaks off, or -1: the longest beginning that some order has. */
        static int breakOff(String rest) {
            String number = "[0-9]{1,3}";
            String[] parts = {
                "w" + number + "," + number + "," + number + ";",
                "f" + number + "," + number + "," + number + "," + number + ";",
                "b" + number + ";", "m" + number + "," + number + ";", "x" + number + ";"};
            for (String part : parts) {
                if (rest.matches("(?s)" + part + ".*")) {
                    return -1;
                }
            }
            int longest = 0;
            for (int length = 1; length <= rest.length(); length++) {
                for (String part : parts) {
                    java.util.regex.Matcher m = java.util.regex.Pattern.compile(part).matcher(rest.substring(0, length));
                    if (m.matches() || m.hitEnd()) {
                        longest = length;
                    }
                }
            }
            return longest;
        }

        int ask(String name, int[] a) {
            switch (name) {
                case "read":
                    return !isState(a[0]) || !isCell(a[1]) ? INVALID : now.cells(a[0]).get(a[1]);
                case "stateOf": return stateOf(a[0], a[1]);
                case "number":
                    return a[0] < 0 ? INVALID : a[0] >= now.rows.size() ? MISSING : new ArrayList<>(now.rows.keySet()).get(a[0]);
                case "blockAt":
                    return !isState(a[0]) || a[1] < 0 || a[1] > 5 ? INVALID : now.rows.get(a[0])[a[1]];
                case "blockOf": return blockOf(a[0], a[1]);
                case "head": return now.heads.getOrDefault(a[0], INVALID);
                case "unlike": return unlike(a[0], a[1], a[2]);
                case "like": return like(a[0]);
                case "before": return before(a[0], a[1]);
                case "conflicts":
                    return !now.heads.containsKey(a[0]) || !isState(a[1]) ? INVALID : now.merged(a[0], a[1], new ArrayList<>());
                case "frees": return now.copy().forget(a[0]);
                case "heaviest": return heaviest(a[0]);
                case "count": return count(a[0]);
                case "undo":
                    if (history.isEmpty()) {
                        return IMPOSSIBLE;
                    }
                    now = history.removeLast();
                    return history.size();
                case "type": return type(a[0]);
                case "clearText":
                    int had = text.length();
                    text = "";
                    return had;
                default:
                    if (a[0] < 0 || a[0] > 2) {
                        return INVALID;
                    }
                    return doOrders(now.copy()) == 0 ? MISSING : fault[a[0]];
            }
        }

        boolean isState(int state) {
            return now.rows.containsKey(state);
        }

        static boolean isCell(int cell) {
            return cell >= 0 && cell < 48;
        }

        int stateOf(int state, int what) {
            if (!isState(state) || what < 0 || what > 7) {
                return INVALID;
            }
            int parent = now.parents.get(state);
            int[] row = now.rows.get(state);
            int answer = 0;
            switch (what) {
                case 0: return parent == -1 ? MISSING : parent;
                case 1: return (int) now.parents.values().stream().filter(p -> p == state).count();
                case 2: return now.way(state).size() - 1;
                case 3: return now.cells(state).stream().mapToInt(v -> v).sum();
                case 4:
                    if (parent == -1) {
                        return MISSING;
                    }
                    for (int place = 0; place < 6; place++) {
                        answer += row[place] != now.rows.get(parent)[place] ? 1 : 0;
                    }
                    return answer;
                case 5:
                    Picture rest = now.copy();
                    rest.rows.remove(state);
                    return (int) Arrays.stream(row).filter(block -> !rest.used().contains(block)).count();
                case 6: return (int) Arrays.stream(row).distinct().count();
                default:
                    for (int branch : now.heads.keySet()) {
                        answer += now.heads.get(branch) == state ? 1 << branch : 0;
                    }
                    return answer;
            }
        }

        int blockOf(int block, int what) {
            if (!now.blocks.containsKey(block) || what < 0 || what > 4) {
                return INVALID;
            }
            List<Integer> values = now.blocks.get(block);
            int answer = 0;
            switch (what) {
                case 0: return (int) now.rows.values().stream().flatMapToInt(Arrays::stream).filter(b -> b == block).count();
                case 1: return (int) now.rows.values().stream().filter(r -> Arrays.stream(r).anyMatch(b -> b == block)).count();
                case 2: return values.stream().mapToInt(v -> v).sum();
                case 3:
                    for (int i = 0; i < 8; i++) {
                        answer += values.get(i) != 0 ? 1 << i : 0;
                    }
                    return answer;
                default:
                    for (int other : now.blocks.keySet()) {
                        if (other != block && now.blocks.get(other).equals(values)) {
                            return other;
                        }
                    }
                    return MISSING;
            }
        }

        int unlike(int one, int other, int what) {
            if (!isState(one) || !isState(other) || what < 0 || what > 3) {
                return INVALID;
            }
            if (what == 3) {
                return now.common(one, other);
            }
            List<Integer> cells = new ArrayList<>();
            for (int cell = 0; cell < 48; cell++) {
                if (!now.cells(one).get(cell).equals(now.cells(other).get(cell))) {
                    cells.add(cell);
                }
            }
            int places = 0;
            for (int place = 0; place < 6; place++) {
                places += now.rows.get(one)[place] != now.rows.get(other)[place] ? 1 : 0;
            }
            return what == 0 ? cells.size() : what == 2 ? places : cells.isEmpty() ? MISSING : cells.get(0);
        }

        int like(int state) {
            if (!isState(state)) {
                return INVALID;
            }
            for (int other : now.rows.keySet()) {
                if (other != state && now.cells(other).equals(now.cells(state))) {
                    return other;
                }
            }
            return MISSING;
        }

        int before(int state, int cell) {
            if (!isState(state) || !isCell(cell)) {
                return INVALID;
            }
            return now.way(state).stream().filter(at -> !now.cells(at).get(cell).equals(now.cells(state).get(cell)))
                .max(Integer::compare).orElse(MISSING);
        }

        int heaviest(int what) {
            if (what != 0 && what != 1) {
                return INVALID;
            }
            int best = MISSING;
            int most = MISSING;
            for (int state : now.rows.keySet()) {
                int freed = now.copy().forget(state);
                if (freed >= 0 && freed > most) {
                    best = state;
                    most = freed;
                }
            }
            return what == 0 ? best : most;
        }

        int count(int what) {
            switch (what) {
                case 0: return now.rows.size();
                case 1: return now.heads.size();
                case 2: return now.blocks.size();
                case 3: return now.rows.values().stream().mapToInt(r -> r.length).sum();
                case 4: return now.copy().share();
                case 5: return now.states;
                case 6: return now.made;
                case 7: return now.taken;
                case 8: return now.conflicts;
                case 9: return history.size();
                case 10: return text.length();
                case 20: return now.sharing ? 1 : 0;
                default: return INVALID;
            }
        }

        int type(int character) {
            if (character < 32 || character > 126) {
                return INVALID;
            }
            if (text.length() == 60) {
                return LIMIT;
            }
            text += (char) character;
            return text.length();
        }
    }

    private static int call(SharedStates x, String name, int[] a) {
        switch (name) {
            case "write": return x.write(a[0], a[1], a[2]);
            case "fill": return x.fill(a[0], a[1], a[2], a[3]);
            case "copy": return x.copy(a[0], a[1], a[2], a[3], a[4]);
            case "merge": return x.merge(a[0], a[1]);
            case "branch": return x.branch(a[0]);
            case "leave": return x.leave(a[0]);
            case "back": return x.back(a[0]);
            case "forget": return x.forget(a[0]);
            case "share": return x.share();
            case "set": return x.set(a[0], a[1]);
            case "play": return x.play();
            case "read": return x.read(a[0], a[1]);
            case "stateOf": return x.stateOf(a[0], a[1]);
            case "number": return x.number(a[0]);
            case "blockAt": return x.blockAt(a[0], a[1]);
            case "blockOf": return x.blockOf(a[0], a[1]);
            case "head": return x.head(a[0]);
            case "unlike": return x.unlike(a[0], a[1], a[2]);
            case "like": return x.like(a[0]);
            case "before": return x.before(a[0], a[1]);
            case "conflicts": return x.conflicts(a[0], a[1]);
            case "frees": return x.frees(a[0]);
            case "heaviest": return x.heaviest(a[0]);
            case "count": return x.count(a[0]);
            case "undo": return x.undo();
            case "type": return x.type(a[0]);
            case "clearText": return x.clearText();
            default: return x.fault(a[0]);
        }
    }

    private static final String[] CHANGES = {
        "write", "fill", "copy", "merge", "branch", "leave", "back", "forget", "share", "set", "play"};
    private static final int[] CHANGE_WEIGHTS = {14, 12, 12, 12, 6, 3, 6, 12, 1, 2, 2};
    private static final String[] QUESTIONS = {
        "read", "stateOf", "number", "blockAt", "blockOf", "head", "unlike", "like", "before", "conflicts", "frees",
        "heaviest", "count", "fault"};

    private final Random random;
    private final SharedStates x = new SharedStates();
    private final Model model = new Model();
    private final StringBuilder trace = new StringBuilder();
    private int calls = 0;
    private boolean wrong = false;

    private ModelTest(long seed) {
        random = new Random(seed);
    }

    private int below(int many) {
        return random.nextInt(many);
    }

    private void step(String name, int... a) {
        if (wrong || calls >= CALLS) {
            return;
        }
        calls++;
        trace.append(name).append(Arrays.toString(a)).append('\n');
        boolean isChange = Arrays.asList(CHANGES).contains(name);
        int due = isChange ? model.change(name, a) : model.ask(name, a);
        int got = call(x, name, a);
        if (got != due) {
            wrong = true;
            System.out.println(trace + "call " + calls + " answered " + got + ", due is " + due);
        }
    }

    private int branch() {
        List<Integer> there = new ArrayList<>(model.now.heads.keySet());
        return below(15) == 0 ? below(6) - 1 : there.get(below(there.size()));
    }

    private int state() {
        List<Integer> there = new ArrayList<>(model.now.rows.keySet());
        return below(15) == 0 ? below(model.now.states + 3) - 1 : there.get(below(there.size()));
    }

    private int cell() {
        return below(20) == 0 ? below(52) - 2 : below(3) == 0 ? 8 * below(6) : below(48);
    }

    private int many(int first) {
        return below(20) == 0 ? below(52) - 1 : 1 + below(Math.max(1, 48 - first));
    }

    private int value() {
        return below(20) == 0 ? EXTREMES[below(EXTREMES.length)] : below(4) == 0 ? below(1000) : below(3);
    }

    private int[] arguments(String name) {
        int one = cell();
        int two = cell();
        switch (name) {
            case "write": return new int[] {branch(), one, value()};
            case "fill": return new int[] {branch(), one, many(one), value()};
            case "copy": return new int[] {branch(), state(), one, two, many(Math.max(one, two))};
            case "merge": case "conflicts": return new int[] {branch(), state()};
            case "branch": case "forget": case "like": case "frees": return new int[] {state()};
            case "leave": case "back": case "head": return new int[] {branch()};
            case "set": return new int[] {below(10) == 0 ? 1 : 0, below(10) == 0 ? below(4) - 1 : below(2)};
            case "read": case "before": return new int[] {state(), one};
            case "stateOf": return new int[] {state(), below(10) - 1};
            case "number": return new int[] {below(18) - 1};
            case "blockAt": return new int[] {state(), below(8) - 1};
            case "blockOf": return new int[] {below(model.now.blocks.lastKey() + 3) - 1, below(7) - 1};
            case "unlike": return new int[] {state(), state(), below(6) - 1};
            case "heaviest": return new int[] {below(4) - 1};
            case "fault": return new int[] {below(5) - 1};
            case "count": return new int[] {below(23) - 1};
            default: return new int[] {};
        }
    }

    private void spoil(int[] a) {
        if (a.length > 0 && below(25) == 0) {
            a[below(a.length)] = EXTREMES[below(EXTREMES.length)];
        }
    }

    private void typeOrder() {
        String order;
        switch (below(5)) {
            case 0: order = "w" + branch() + "," + cell() + "," + below(8); break;
            case 1: order = "f" + branch() + "," + 8 * below(6) + "," + below(10) + "," + below(4); break;
            case 2: order = "b" + state(); break;
            case 3: order = "m" + branch() + ",0" + state(); break;
            default: order = "x" + state(); break;
        }
        order += ";";
        if (below(6) == 0) {
            int at = below(order.length());
            String odd = "wfbmx,;0123456789 ~";
            order = order.substring(0, at) + odd.charAt(below(odd.length())) + order.substring(at + below(2));
        }
        if (below(12) == 0) {
            order = order.substring(0, below(order.length()));
        }
        for (int i = 0; i < order.length(); i++) {
            step("type", order.charAt(i));
        }
    }

    private void change() {
        int total = Arrays.stream(CHANGE_WEIGHTS).sum();
        int drawn = below(total);
        int index = 0;
        while (drawn >= CHANGE_WEIGHTS[index]) {
            drawn -= CHANGE_WEIGHTS[index];
            index++;
        }
        int[] a = arguments(CHANGES[index]);
        spoil(a);
        step(CHANGES[index], a);
    }

    private void askAbout() {
        String name = QUESTIONS[below(QUESTIONS.length)];
        int[] a = arguments(name);
        spoil(a);
        step(name, a);
    }

    private void move() {
        int kind = below(100);
        if (kind < 45) {
            change();
        } else if (kind < 88) {
            askAbout();
        } else if (kind < 91) {
            for (int i = below(5); i >= 0; i--) {
                step("undo");
            }
        } else if (kind < 97) {
            typeOrder();
            step("fault", below(3));
            if (below(2) == 0) {
                step("play");
            }
        } else if (kind < 98) {
            step("type", below(110) + 25);
        } else {
            step("clearText");
        }
    }

    private boolean run() {
        step("set", 0, below(2));
        while (calls < CALLS && !wrong) {
            move();
        }
        return !wrong;
    }

    public static void main(String[] args) {
        int failed = 0;
        for (long seed = 1; seed <= RUNS && failed == 0; seed++) {
            if (!new ModelTest(seed).run()) {
                System.out.println("by the seed " + seed);
                failed++;
            }
        }
        System.out.println(failed == 0 ? "all " + RUNS + " runs answered as the model" : "a run was answered otherwise");
        if (failed != 0) {
            System.exit(1);
        }
    }
}
