/**
 * Knits charts, row by row, on a machine with two beds of needles of which the back one can be racked.
 *
 * Every row keeps the whole cloth as it was when that row was done, so that ravelling is only a step back.
 * All arrays are made with the object: no call makes anything.
 */
public final class ChartKnitter {
    public static final int NONE = -1;

    private static final int MOST_CHARACTERS = 40;
    private static final int MOST_COLUMNS = 16;
    private static final int MOST_ROWS = 20;
    private static final int MOST_LOOPS = 300;
    private static final int MOST_ON_NEEDLE = 4;
    private static final int MOST_RACK = 8;
    private static final int CARRIERS = 3;
    // A crossing takes two columns at least, so a row of 16 columns holds no more than 8 of them.
    private static final int MOST_CROSSINGS = MOST_ROWS * MOST_COLUMNS / 2;

    private static final int FRONT = 0;
    private static final int BACK = 1;
    private static final int LEFT = 0;
    private static final int RIGHT = 1;
    private static final int IS_PARENT = -1;
    private static final int IS_DROPPED = -2;

    private static final int FAULT_CHARACTER = 1;
    private static final int FAULT_TAKEN = 2;
    private static final int FAULT_GIVEN = 3;
    private static final int FAULT_NEEDLE = 4;
    private static final int FAULT_RACK = 5;
    private static final int FAULT_CARRIER = 6;
    private static final int FAULT_ROWS = 7;
    private static final int FAULT_LOOPS = 8;

    private final Chart chart = new Chart();
    private final Plan plan = new Plan();
    private final Machine machine = new Machine();
    private final Loops loops = new Loops();
    private final Crossings crossings = new Crossings();
    private final Row[] rows = new Row[MOST_ROWS + 1];
    private int lastRow = 0;
    private int faultPlace = NONE;

    public ChartKnitter() {
        for (int i = 0; i < rows.length; i++) {
            rows[i] = new Row();
        }
    }

    public int write(long characters) {
        int more = 0;
        for (int i = 0; i < 8; i++) {
            if (byteOf(characters, i) != 0) {
                more++;
            }
        }
        if (chart.length + more > MOST_CHARACTERS) {
            return NONE;
        }
        for (int i = 0; i < 8; i++) {
            int character = byteOf(characters, i);
            if (character != 0) {
                chart.text[chart.length] = character;
                chart.length++;
            }
        }
        return chart.length;
    }

    public int wipe() {
        int had = chart.length;
        chart.length = 0;
        return had;
    }

    public void castOn(int columns) throws IllegalArgumentException {
        if (columns < 1 || columns > MOST_COLUMNS) {
            throw new IllegalArgumentException("columns is not 1 .. 16");
        }
        Row edge = rows[0];
        edge.begin(columns);
        for (int column = 0; column < columns; column++) {
            loops.make(column, 0, column, FRONT, 0);
            edge.beds[column] = FRONT;
            edge.push(column, column);
        }
        edge.loops = columns;
        edge.dropped = 0;
        edge.crossings = 0;
        edge.sides[0] = RIGHT;
        edge.sides[1] = NONE;
        edge.sides[2] = NONE;
        lastRow = 0;
    }

    public int knit(int carrier) throws IllegalStateException, IllegalArgumentException {
        if (rows[0].columns == 0) {
            throw new IllegalStateException("nothing was cast on");
        }
        if (!isCarrier(carrier)) {
            throw new IllegalArgumentException("carrier is not 0 .. 2");
        }
        faultPlace = NONE;
        int fault = faultOfChart();
        if (fault == 0) {
            fault = faultOfRow(carrier);
        }
        if (fault == 0) {
            knitNextRow(carrier);
            chart.length = 0;
        }
        return fault;
    }

    public int place() {
        return faultPlace;
    }

    public int ravel() {
        if (lastRow == 0) {
            return NONE;
        }
        lastRow--;
        // Loops that left the stacks earlier than the ravelled row are not touched by it.
        Row row = rows[lastRow];
        for (int column = 0; column < row.columns; column++) {
            for (int depth = 0; depth < row.sizes[column]; depth++) {
                loops.where[row.loopAt(column, depth)] = column;
            }
        }
        return lastRow;
    }

    public int number(int what) {
        Row row = rows[lastRow];
        switch (what) {
            case 0:
                return lastRow;
            case 1:
                return row.columns;
            case 2:
                return row.loops;
            case 3:
                return row.dropped;
            default:
                return NONE;
        }
    }

    public int program(int row, int what) throws IndexOutOfBoundsException, IllegalArgumentException {
        if (!isKnitted(row)) {
            throw new IndexOutOfBoundsException("there is no such row");
        }
        Row knitted = rows[row];
        switch (what) {
            case 0:
                return knitted.transfers;
            case 1:
                return knitted.rackings;
            case 2:
                return knitted.released;
            case 3:
                return knitted.made;
            case 4:
                return knitted.crossedPairs;
            default:
                throw new IllegalArgumentException("what is not 0 .. 4");
        }
    }

    public int parent(int loop, int j) throws IndexOutOfBoundsException {
        if (!isLoop(loop)) {
            throw new IndexOutOfBoundsException("there is no such loop");
        }
        return j < 0 || j >= MOST_ON_NEEDLE ? NONE : loops.parents[loop * MOST_ON_NEEDLE + j];
    }

    public int loop(int loop, int what) throws IndexOutOfBoundsException, IllegalArgumentException {
        if (!isLoop(loop)) {
            throw new IndexOutOfBoundsException("there is no such loop");
        }
        switch (what) {
            case 0:
                return loops.row[loop];
            case 1:
                return loops.column[loop];
            case 2:
                return loops.bed[loop];
            case 3:
                return loops.carrier[loop];
            case 4:
                return loops.where[loop];
            default:
                throw new IllegalArgumentException("what is not 0 .. 4");
        }
    }

    public int cross(int row, int j) throws IndexOutOfBoundsException {
        if (!isKnitted(row)) {
            throw new IndexOutOfBoundsException("there is no such row");
        }
        Row below = rows[row - 1];
        int pair = j;
        for (int i = below.crossings; i < rows[row].crossings && pair >= 0; i++) {
            int pairs = crossings.pairs(i, below);
            if (pair < pairs) {
                return crossings.pairAt(i, below, pair);
            }
            pair -= pairs;
        }
        return NONE;
    }

    public int live(int column, int depth) {
        Row row = rows[lastRow];
        if (!row.hasColumn(column) || depth < 0 || depth >= row.sizes[column]) {
            return NONE;
        }
        return row.loopAt(column, depth);
    }

    public int bed(int column) {
        Row row = rows[lastRow];
        return row.hasColumn(column) ? row.beds[column] : NONE;
    }

    public int side(int carrier) {
        return isCarrier(carrier) ? rows[lastRow].sides[carrier] : NONE;
    }

    private boolean isKnitted(int row) {
        return row >= 1 && row <= lastRow;
    }

    private boolean isLoop(int loop) {
        return loop >= 0 && loop < rows[lastRow].loops;
    }

    private static boolean isCarrier(int carrier) {
        return carrier >= 0 && carrier < CARRIERS;
    }

    private static int byteOf(long characters, int i) {
        return (int) ((characters >>> (8 * i)) & 255L);
    }

    /** The side to which a row goes; rows with an odd number go from the right to the left. */
    private static int endOf(int row) {
        return row % 2 == 1 ? LEFT : RIGHT;
    }

    /** The faults 1 to 5; the plan stands when there is none of 1 to 3. */
    private int faultOfChart() {
        Row below = rows[lastRow];
        int wrong = chart.read();
        if (wrong != NONE) {
            faultPlace = wrong;
            return FAULT_CHARACTER;
        }
        if (chart.taken != below.columns) {
            return FAULT_TAKEN;
        }
        if (chart.given < 1 || chart.given > MOST_COLUMNS) {
            return FAULT_GIVEN;
        }
        plan.make(chart);
        int overfull = chart.placeOfOverfull(below);
        if (overfull != NONE) {
            faultPlace = overfull;
            return FAULT_NEEDLE;
        }
        int far = plan.placeOfTooFar();
        if (far != NONE) {
            faultPlace = far;
            return FAULT_RACK;
        }
        return 0;
    }

    /** The faults 6 to 8, which have no place. */
    private int faultOfRow(int carrier) {
        Row below = rows[lastRow];
        if (below.sides[carrier] == endOf(lastRow + 1)) {
            return FAULT_CARRIER;
        }
        if (lastRow >= MOST_ROWS) {
            return FAULT_ROWS;
        }
        if (below.loops + chart.made > MOST_LOOPS) {
            return FAULT_LOOPS;
        }
        return 0;
    }

    private void knitNextRow(int carrier) {
        Row below = rows[lastRow];
        lastRow++;
        Row row = rows[lastRow];
        row.begin(chart.given);
        row.made = chart.made;
        machine.run(plan, below);
        row.transfers = machine.transfers;
        row.rackings = machine.rackings;
        release(below, row);
        bringToGoals(below, row, false);
        bringToGoals(below, row, true);
        noteCrossings(below, row);
        makeLoops(below, row, carrier);
        for (int i = 0; i < CARRIERS; i++) {
            row.sides[i] = below.sides[i];
        }
        row.sides[carrier] = endOf(lastRow);
    }

    private void release(Row below, Row row) {
        row.released = 0;
        row.dropped = below.dropped;
        for (int column = 0; column < plan.columns; column++) {
            if (plan.goals[column] == NONE) {
                row.released++;
                row.dropped += below.sizes[column];
                for (int depth = 0; depth < below.sizes[column]; depth++) {
                    loops.where[below.loopAt(column, depth)] = IS_DROPPED;
                }
            }
        }
    }

    /** The order of the transfers is the order of the loops on a needle, and so that of the parents. */
    private void bringToGoals(Row below, Row row, boolean late) {
        for (int column = 0; column < plan.columns; column++) {
            int goal = plan.goals[column];
            if (goal != NONE && plan.late[column] == late) {
                for (int depth = 0; depth < below.sizes[column]; depth++) {
                    int loop = below.loopAt(column, depth);
                    row.push(goal, loop);
                    loops.where[loop] = goal;
                }
            }
        }
    }

    private void noteCrossings(Row below, Row row) {
        row.crossings = below.crossings;
        row.crossedPairs = 0;
        for (int i = 0; i < chart.stitchCount; i++) {
            if (chart.stitches[i].isCrossing()) {
                crossings.note(row.crossings, chart.stitches[i]);
                row.crossedPairs += crossings.pairs(row.crossings, below);
                row.crossings++;
            }
        }
    }

    private void makeLoops(Row below, Row row, int carrier) {
        row.loops = below.loops;
        for (int i = 0; i < row.columns; i++) {
            int column = endOf(lastRow) == LEFT ? row.columns - 1 - i : i;
            Stitch stitch = plan.givers[column];
            row.beds[column] = stitch.bedNeeded(below);
            if (stitch.makesLoop()) {
                int made = row.loops;
                loops.make(made, lastRow, column, row.beds[column], carrier);
                if (!stitch.keepsStack()) {
                    drawThrough(row, column, made);
                }
                row.push(column, made);
                row.loops++;
            }
        }
    }

    private void drawThrough(Row row, int column, int made) {
        for (int depth = 0; depth < row.sizes[column]; depth++) {
            int parent = row.loopAt(column, depth);
            loops.parents[made * MOST_ON_NEEDLE + depth] = parent;
            loops.where[parent] = IS_PARENT;
        }
        row.sizes[column] = 0;
    }

    /** A stitch that was read, with the columns that it takes and gives. */
    private static final class Stitch {
        int sign;
        int at;
        int left;
        int right;
        int firstTaken;
        int firstGiven;

        static boolean isSign(int character) {
            switch (character) {
                case 'k':
                case 'p':
                case 'o':
                case 'l':
                case 'r':
                case 'c':
                case 't':
                case 'm':
                case 'x':
                case '<':
                case '>':
                    return true;
                default:
                    return false;
            }
        }

        static boolean isCrossingSign(int character) {
            return character == '<' || character == '>';
        }

        boolean isCrossing() {
            return isCrossingSign(sign);
        }

        int takes() {
            switch (sign) {
                case 'o':
                    return 0;
                case 'l':
                case 'r':
                    return 2;
                case 'c':
                    return 3;
                case '<':
                case '>':
                    return left + right;
                default:
                    return 1;
            }
        }

        int gives() {
            switch (sign) {
                case 'x':
                    return 0;
                case '<':
                case '>':
                    return left + right;
                default:
                    return 1;
            }
        }

        boolean makesLoop() {
            return sign != 'm' && sign != 'x';
        }

        boolean keepsStack() {
            return sign == 't' || sign == 'm';
        }

        int goalOf(int column) {
            if (sign == 'x') {
                return NONE;
            }
            if (!isCrossing()) {
                return firstGiven;
            }
            int offset = column - firstTaken;
            return offset < left ? firstGiven + right + offset : firstGiven + offset - left;
        }

        boolean isLate(int column) {
            int offset = column - firstTaken;
            switch (sign) {
                case 'l':
                    return offset == 0;
                case 'c':
                    return offset == 1;
                case '<':
                    return offset >= left;
                case '>':
                    return offset < left;
                default:
                    return false;
            }
        }

        int bedNeeded(Row below) {
            if (sign == 'p') {
                return BACK;
            }
            return keepsStack() ? below.beds[firstTaken] : FRONT;
        }
    }

    /** The text, and the stitches that it was last read as. */
    private static final class Chart {
        final int[] text = new int[MOST_CHARACTERS];
        int length = 0;
        final Stitch[] stitches = new Stitch[MOST_CHARACTERS];
        int stitchCount = 0;
        int taken = 0;
        int given = 0;
        int made = 0;

        Chart() {
            for (int i = 0; i < stitches.length; i++) {
                stitches[i] = new Stitch();
            }
        }

        /** Reads the text; answers the place of the first character that cannot stand there, or NONE. */
        int read() {
            stitchCount = 0;
            taken = 0;
            given = 0;
            made = 0;
            int at = 0;
            while (at < length) {
                if (!Stitch.isSign(text[at])) {
                    return at;
                }
                boolean crossing = Stitch.isCrossingSign(text[at]);
                if (crossing && digitAt(at + 1) == 0) {
                    return at + 1;
                }
                if (crossing && digitAt(at + 2) == 0) {
                    return at + 2;
                }
                add(at, crossing);
                at += crossing ? 3 : 1;
            }
            return length == 0 ? 0 : NONE;
        }

        /** The digit 1 .. 4 at a place, 0 where there is none. */
        private int digitAt(int at) {
            return at < length && text[at] >= '1' && text[at] <= '4' ? text[at] - '0' : 0;
        }

        private void add(int at, boolean crossing) {
            Stitch stitch = stitches[stitchCount];
            stitch.sign = text[at];
            stitch.at = at;
            stitch.left = crossing ? digitAt(at + 1) : 0;
            stitch.right = crossing ? digitAt(at + 2) : 0;
            stitch.firstTaken = taken;
            stitch.firstGiven = given;
            stitchCount++;
            taken += stitch.takes();
            given += stitch.gives();
            made += stitch.makesLoop() ? stitch.gives() : 0;
        }

        /** The place of the first stitch with too many loops for one needle, or NONE. */
        int placeOfOverfull(Row below) {
            for (int i = 0; i < stitchCount; i++) {
                Stitch stitch = stitches[i];
                int onNeedle = stitch.sign == 't' ? 1 : 0;
                for (int j = 0; j < stitch.takes(); j++) {
                    onNeedle += below.sizes[stitch.firstTaken + j];
                }
                // The columns of a crossing come to needles of their own.
                if (onNeedle > MOST_ON_NEEDLE && !stitch.isCrossing()) {
                    return stitch.at;
                }
            }
            return NONE;
        }
    }

    /** What becomes of each column of the row below, and which stitch gives each column of the row. */
    private static final class Plan {
        int columns = 0;
        final Stitch[] takers = new Stitch[MOST_COLUMNS];
        final int[] goals = new int[MOST_COLUMNS];
        final boolean[] late = new boolean[MOST_COLUMNS];
        final Stitch[] givers = new Stitch[MOST_COLUMNS];

        Plan() {
            // So that no reference in them is ever null.
            Stitch none = new Stitch();
            for (int column = 0; column < MOST_COLUMNS; column++) {
                takers[column] = none;
                givers[column] = none;
            }
        }

        /** Only for a chart which takes and gives no more than 16 columns. */
        void make(Chart chart) {
            columns = chart.taken;
            for (int i = 0; i < chart.stitchCount; i++) {
                Stitch stitch = chart.stitches[i];
                for (int j = 0; j < stitch.takes(); j++) {
                    int column = stitch.firstTaken + j;
                    takers[column] = stitch;
                    goals[column] = stitch.goalOf(column);
                    late[column] = stitch.isLate(column);
                }
                for (int j = 0; j < stitch.gives(); j++) {
                    givers[stitch.firstGiven + j] = stitch;
                }
            }
        }

        /** The place of the stitch of the first column that the rack cannot bring to its goal, or NONE. */
        int placeOfTooFar() {
            for (int column = 0; column < columns; column++) {
                if (goals[column] != NONE && Math.abs(goals[column] - column) > MOST_RACK) {
                    return takers[column].at;
                }
            }
            return NONE;
        }

        boolean movesColumns() {
            for (int column = 0; column < columns; column++) {
                if (goals[column] != NONE && goals[column] != column) {
                    return true;
                }
            }
            return false;
        }
    }

    /** Runs the transfers of a row's program and counts them, and the changes of the rack. */
    private static final class Machine {
        int rack = 0;
        int transfers = 0;
        int rackings = 0;

        void run(Plan plan, Row below) {
            rack = 0;
            transfers = 0;
            rackings = 0;
            if (plan.movesColumns()) {
                clearFront(plan, below);
                moveToGoals(plan, false);
                moveToGoals(plan, true);
                fillBack(plan, below);
            } else {
                changeBeds(plan, below);
            }
            rackTo(0);
        }

        private void clearFront(Plan plan, Row below) {
            for (int column = 0; column < plan.columns; column++) {
                if (plan.goals[column] != NONE && below.beds[column] == FRONT) {
                    transfer(0);
                }
            }
        }

        private void moveToGoals(Plan plan, boolean late) {
            for (int column = 0; column < plan.columns; column++) {
                if (plan.goals[column] != NONE && plan.late[column] == late) {
                    transfer(plan.goals[column] - column);
                }
            }
        }

        private void fillBack(Plan plan, Row below) {
            for (int column = 0; column < plan.columns; column++) {
                if (plan.goals[column] != NONE && plan.takers[column].bedNeeded(below) == BACK) {
                    transfer(0);
                }
            }
        }

        private void changeBeds(Plan plan, Row below) {
            for (int column = 0; column < plan.columns; column++) {
                if (plan.goals[column] != NONE && plan.takers[column].bedNeeded(below) != below.beds[column]) {
                    transfer(0);
                }
            }
        }

        private void transfer(int offset) {
            rackTo(offset);
            transfers++;
        }

        private void rackTo(int offset) {
            if (rack != offset) {
                rack = offset;
                rackings++;
            }
        }
    }

    /** The cloth as it is when a row is done, and what the row's program took. */
    private static final class Row {
        int columns = 0;
        final int[] stacks = new int[MOST_COLUMNS * MOST_ON_NEEDLE];
        final int[] sizes = new int[MOST_COLUMNS];
        final int[] beds = new int[MOST_COLUMNS];
        final int[] sides = {NONE, NONE, NONE};
        int loops = 0;
        int dropped = 0;
        // How many crossings all rows up to this one have.
        int crossings = 0;
        int transfers = 0;
        int rackings = 0;
        int released = 0;
        int made = 0;
        int crossedPairs = 0;

        void begin(int columnsOfRow) {
            columns = columnsOfRow;
            for (int column = 0; column < MOST_COLUMNS; column++) {
                sizes[column] = 0;
            }
        }

        boolean hasColumn(int column) {
            return column >= 0 && column < columns;
        }

        int loopAt(int column, int depth) {
            return stacks[column * MOST_ON_NEEDLE + depth];
        }

        void push(int column, int loop) {
            stacks[column * MOST_ON_NEEDLE + sizes[column]] = loop;
            sizes[column]++;
        }
    }

    /** What is known of each loop for good, its parents, and where it is now. */
    private static final class Loops {
        final int[] row = new int[MOST_LOOPS];
        final int[] column = new int[MOST_LOOPS];
        final int[] bed = new int[MOST_LOOPS];
        final int[] carrier = new int[MOST_LOOPS];
        final int[] where = new int[MOST_LOOPS];
        final int[] parents = new int[MOST_LOOPS * MOST_ON_NEEDLE];

        void make(int loop, int ofRow, int ofColumn, int ofBed, int ofCarrier) {
            row[loop] = ofRow;
            column[loop] = ofColumn;
            bed[loop] = ofBed;
            carrier[loop] = ofCarrier;
            where[loop] = ofColumn;
            for (int j = 0; j < MOST_ON_NEEDLE; j++) {
                parents[loop * MOST_ON_NEEDLE + j] = NONE;
            }
        }
    }

    /** The crossings of all rows; their pairs of loops follow from the stacks of the row below. */
    private static final class Crossings {
        final int[] first = new int[MOST_CROSSINGS];
        final int[] left = new int[MOST_CROSSINGS];
        final int[] right = new int[MOST_CROSSINGS];
        final int[] leftInFront = new int[MOST_CROSSINGS];

        void note(int i, Stitch stitch) {
            first[i] = stitch.firstTaken;
            left[i] = stitch.left;
            right[i] = stitch.right;
            leftInFront[i] = stitch.sign == '<' ? 1 : 0;
        }

        int pairs(int i, Row below) {
            return loopsIn(below, first[i], left[i]) * loopsIn(below, first[i] + left[i], right[i]);
        }

        /** Only for a pair that the crossing has: then there are loops on its right to divide by. */
        int pairAt(int i, Row below, int pair) {
            int middle = first[i] + left[i];
            int onRight = Math.max(1, loopsIn(below, middle, right[i]));
            int fromLeft = loopIn(below, first[i], left[i], pair / onRight);
            int fromRight = loopIn(below, middle, right[i], pair % onRight);
            return 1024 * fromLeft + 2 * fromRight + leftInFront[i];
        }

        private static int loopsIn(Row below, int from, int columns) {
            int sum = 0;
            for (int column = from; column < from + columns; column++) {
                sum += below.sizes[column];
            }
            return sum;
        }

        private static int loopIn(Row below, int from, int columns, int nth) {
            int left = nth;
            for (int column = from; column < from + columns; column++) {
                if (left < below.sizes[column]) {
                    return below.loopAt(column, left);
                }
                left -= below.sizes[column];
            }
            return NONE;
        }
    }
}
