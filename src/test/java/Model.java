import java.util.ArrayList;
import java.util.List;
import java.util.TreeMap;

/**
 * A slow second writing of the document, to compare with: it keeps a copy of everything for each row, and moves
 * stacks between two beds of needles one transfer at a time. What crossed follows from the transfers themselves.
 */
final class Model {
    static final int ISE = -1001;
    static final int IAE = -1002;
    static final int IOOBE = -1003;

    private static final class Loop {
        final int row;
        final int column;
        final int bed;
        final int carrier;
        final List<Integer> parents;

        Loop(int row, int column, int bed, int carrier, List<Integer> parents) {
            this.row = row;
            this.column = column;
            this.bed = bed;
            this.carrier = carrier;
            this.parents = parents;
        }
    }

    private static final class State {
        List<List<Integer>> stacks = new ArrayList<>();
        List<Integer> beds = new ArrayList<>();
        List<Loop> loops = new ArrayList<>();
        List<Integer> dropped = new ArrayList<>();
        int[] sides = {-1, -1, -1};
        int[] program = new int[5];
        List<Integer> pairs = new ArrayList<>();
    }

    /** What is to happen to one column. */
    private static final class Take {
        char sign;
        int at;
        int goal;
        boolean late;
    }

    private String text = "";
    private int place = -1;
    private final List<State> states = new ArrayList<>();
    private final List<Take> takes = new ArrayList<>();
    private final List<Character> gives = new ArrayList<>();
    private TreeMap<Integer, List<Integer>> front;
    private TreeMap<Integer, List<Integer>> back;
    private int rack;
    private int transfers;
    private int rackings;

    private State now() {
        return states.isEmpty() ? new State() : states.get(states.size() - 1);
    }

    private int rows() {
        return Math.max(0, states.size() - 1);
    }

    int write(long characters) {
        StringBuilder more = new StringBuilder();
        for (long left = characters; left != 0; left >>>= 8) {
            if ((left & 255) != 0) {
                more.append((char) (left & 255));
            }
        }
        if (text.length() + more.length() > 40) {
            return -1;
        }
        text += more;
        return text.length();
    }

    int wipe() {
        int had = text.length();
        text = "";
        return had;
    }

    int castOn(int columns) {
        if (columns < 1 || columns > 16) {
            return IAE;
        }
        State first = new State();
        for (int i = 0; i < columns; i++) {
            first.loops.add(new Loop(0, i, 0, 0, List.of()));
            first.stacks.add(List.of(i));
            first.beds.add(0);
        }
        first.sides[0] = 1;
        states.clear();
        states.add(first);
        return 0;
    }

    int knit(int carrier) {
        if (states.isEmpty()) {
            return ISE;
        }
        if (carrier < 0 || carrier > 2) {
            return IAE;
        }
        place = -1;
        int fault = fault(carrier);
        if (fault == 0) {
            states.add(next(carrier));
            text = "";
        }
        return fault;
    }

    /** Reads the text into what is taken and given; answers the place of a wrong character, or -1. */
    private int parse() {
        takes.clear();
        gives.clear();
        if (text.isEmpty()) {
            return 0;
        }
        for (int i = 0; i < text.length(); i++) {
            char sign = text.charAt(i);
            if (sign == '<' || sign == '>') {
                int[] digits = new int[2];
                for (int d = 0; d < 2; d++) {
                    int at = i + 1 + d;
                    if (at >= text.length() || "1234".indexOf(text.charAt(at)) < 0) {
                        return at;
                    }
                    digits[d] = "01234".indexOf(text.charAt(at));
                }
                int start = gives.size();
                for (int n = 0; n < digits[0]; n++) {
                    take(sign, i, start + digits[1] + n, sign == '>');
                }
                for (int m = 0; m < digits[1]; m++) {
                    take(sign, i, start + m, sign == '<');
                }
                for (int n = 0; n < digits[0] + digits[1]; n++) {
                    gives.add('k');
                }
                i += 2;
                continue;
            }
            int kind = "kpolrctmx".indexOf(sign);
            if (kind < 0) {
                return i;
            }
            int taken = new int[] {1, 1, 0, 2, 2, 3, 1, 1, 1}[kind];
            for (int n = 0; n < taken; n++) {
                take(sign, i, sign == 'x' ? -1 : gives.size(), sign == 'l' && n == 0 || sign == 'c' && n == 1);
            }
            if (sign != 'x') {
                gives.add(sign);
            }
        }
        return -1;
    }

    private void take(char sign, int at, int goal, boolean late) {
        Take take = new Take();
        take.sign = sign;
        take.at = at;
        take.goal = goal;
        take.late = late;
        takes.add(take);
    }

    private int fault(int carrier) {
        State below = now();
        int wrong = parse();
        if (wrong >= 0) {
            place = wrong;
            return 1;
        }
        if (takes.size() != below.stacks.size()) {
            return 2;
        }
        if (gives.isEmpty() || gives.size() > 16) {
            return 3;
        }
        int[] load = new int[16];
        for (int j = 0; j < takes.size(); j++) {
            Take take = takes.get(j);
            if (take.goal >= 0) {
                load[take.goal] += below.stacks.get(j).size() + (take.sign == 't' ? 1 : 0);
                if (load[take.goal] > 4) {
                    place = take.at;
                    return 4;
                }
            }
        }
        for (int j = 0; j < takes.size(); j++) {
            if (takes.get(j).goal >= 0 && (takes.get(j).goal - j > 8 || j - takes.get(j).goal > 8)) {
                place = takes.get(j).at;
                return 5;
            }
        }
        int row = rows() + 1;
        if (below.sides[carrier] == (row % 2 == 0 ? 1 : 0)) {
            return 6;
        }
        if (row > 20) {
            return 7;
        }
        long made = gives.stream().filter(sign -> sign != 'm').count();
        return below.loops.size() + made > 300 ? 8 : 0;
    }

    private State next(int carrier) {
        State below = now();
        State state = new State();
        state.loops.addAll(below.loops);
        state.dropped.addAll(below.dropped);
        state.sides = below.sides.clone();
        front = new TreeMap<>();
        back = new TreeMap<>();
        rack = 0;
        transfers = 0;
        rackings = 0;
        boolean moved = false;
        for (int j = 0; j < takes.size(); j++) {
            int goal = takes.get(j).goal;
            if (goal < 0) {
                state.dropped.addAll(below.stacks.get(j));
                state.program[2]++;
            } else {
                bedOf(below.beds.get(j)).put(j, new ArrayList<>(below.stacks.get(j)));
                moved |= goal != j;
            }
        }
        if (moved) {
            move(below, state);
        }
        settle(below);
        rackTo(0);
        makeLoops(state, carrier);
        state.program[0] = transfers;
        state.program[1] = rackings;
        state.program[3] = state.loops.size() - below.loops.size();
        state.program[4] = state.pairs.size();
        return state;
    }

    private TreeMap<Integer, List<Integer>> bedOf(int bed) {
        return bed == 0 ? front : back;
    }

    private void rackTo(int offset) {
        rackings += rack == offset ? 0 : 1;
        rack = offset;
    }

    /** A back needle stands opposite the front needle whose number is greater by the rack. */
    private void toFront(int from, int to) {
        rackTo(to - from);
        front.computeIfAbsent(from + rack, key -> new ArrayList<>()).addAll(back.remove(from));
        transfers++;
    }

    private void toBack(int needle) {
        rackTo(0);
        back.computeIfAbsent(needle, key -> new ArrayList<>()).addAll(front.remove(needle));
        transfers++;
    }

    private void move(State below, State state) {
        for (Integer needle : new ArrayList<>(front.keySet())) {
            toBack(needle);
        }
        int[] turn = new int[takes.size()];
        for (int pass = 0; pass < 2; pass++) {
            for (int j = 0; j < takes.size(); j++) {
                if (takes.get(j).goal >= 0 && takes.get(j).late == (pass == 1)) {
                    toFront(j, takes.get(j).goal);
                    turn[j] = transfers;
                }
            }
        }
        for (int a = 0; a < takes.size(); a++) {
            for (int first : below.stacks.get(a)) {
                for (int b = a + 1; b < takes.size(); b++) {
                    if (takes.get(b).goal >= 0 && takes.get(b).goal < takes.get(a).goal) {
                        for (int second : below.stacks.get(b)) {
                            state.pairs.add(1024 * first + 2 * second + (turn[a] < turn[b] ? 1 : 0));
                        }
                    }
                }
            }
        }
    }

    /** Brings every column to the bed where it must lie. */
    private void settle(State below) {
        for (int j = 0; j < takes.size(); j++) {
            Take take = takes.get(j);
            if (take.goal >= 0) {
                boolean stays = take.sign == 't' || take.sign == 'm';
                int must = take.sign == 'p' ? 1 : stays ? below.beds.get(j) : 0;
                if (must == 1 && front.containsKey(take.goal)) {
                    toBack(take.goal);
                } else if (must == 0 && back.containsKey(take.goal)) {
                    toFront(take.goal, take.goal);
                }
            }
        }
    }

    private void makeLoops(State state, int carrier) {
        int row = rows() + 1;
        for (int i = 0; i < gives.size(); i++) {
            int column = row % 2 == 0 ? i : gives.size() - 1 - i;
            int bed = back.containsKey(column) ? 1 : 0;
            List<Integer> stack = bedOf(bed).computeIfAbsent(column, key -> new ArrayList<>());
            char sign = gives.get(column);
            if (sign == 'm') {
                continue;
            }
            List<Integer> parents = List.of();
            if (sign != 't') {
                parents = new ArrayList<>(stack);
                stack.clear();
            }
            stack.add(state.loops.size());
            state.loops.add(new Loop(row, column, bed, carrier, parents));
        }
        for (int column = 0; column < gives.size(); column++) {
            int bed = back.containsKey(column) ? 1 : 0;
            state.beds.add(bed);
            state.stacks.add(bedOf(bed).get(column));
        }
        state.sides[carrier] = row % 2 == 0 ? 1 : 0;
    }

    int place() {
        return place;
    }

    int ravel() {
        if (rows() == 0) {
            return -1;
        }
        states.remove(states.size() - 1);
        return rows();
    }

    int number(int what) {
        State state = now();
        int[] numbers = {rows(), state.stacks.size(), state.loops.size(), state.dropped.size()};
        return what < 0 || what > 3 ? -1 : numbers[what];
    }

    int program(int row, int what) {
        if (row < 1 || row > rows()) {
            return IOOBE;
        }
        return what < 0 || what > 4 ? IAE : states.get(row).program[what];
    }

    int parent(int loop, int j) {
        if (loop < 0 || loop >= now().loops.size()) {
            return IOOBE;
        }
        List<Integer> parents = now().loops.get(loop).parents;
        return j < 0 || j >= parents.size() ? -1 : parents.get(j);
    }

    int loop(int loop, int what) {
        State state = now();
        if (loop < 0 || loop >= state.loops.size()) {
            return IOOBE;
        }
        Loop told = state.loops.get(loop);
        if (what == 4) {
            for (int column = 0; column < state.stacks.size(); column++) {
                if (state.stacks.get(column).contains(loop)) {
                    return column;
                }
            }
            return state.dropped.contains(loop) ? -2 : -1;
        }
        int[] facts = {told.row, told.column, told.bed, told.carrier};
        return what < 0 || what > 4 ? IAE : facts[what];
    }

    int cross(int row, int j) {
        if (row < 1 || row > rows()) {
            return IOOBE;
        }
        List<Integer> pairs = states.get(row).pairs;
        return j < 0 || j >= pairs.size() ? -1 : pairs.get(j);
    }

    int live(int column, int depth) {
        List<List<Integer>> stacks = now().stacks;
        if (column < 0 || column >= stacks.size() || depth < 0 || depth >= stacks.get(column).size()) {
            return -1;
        }
        return stacks.get(column).get(depth);
    }

    int bed(int column) {
        return column < 0 || column >= now().beds.size() ? -1 : now().beds.get(column);
    }

    int side(int carrier) {
        return carrier < 0 || carrier > 2 ? -1 : now().sides[carrier];
    }
}
