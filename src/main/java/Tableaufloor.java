import java.util.NoSuchElementException;

/**
 * A solver of linear programs in exact fractions, which are changed while they stand.
 *
 * <p>All arrays are made in constructors and used again, so that a call makes no objects but the
 * exception that it throws.
 */
public final class Tableaufloor {
    private static final int MOST_VARIABLES = 3;
    private static final int MOST_ROWS = 12;
    private static final int MOST_LIVE_ROWS = 6;
    private static final int MOST_AIMS = 3;
    private static final int MOST_CHARACTERS = 30;
    private static final int MOST_SNAPSHOTS = 4;
    private static final int LEAST_LEAST = -50;
    private static final int GREATEST_LEAST = 50;
    private static final int NO_GREATEST = 100;
    private static final int MOST_NUMBER = 99;
    private static final int MOST_COEFFICIENT = 9;
    private static final int MOST_WHOLE_STEPS = 6;
    private static final int NONE = -1;
    private static final int UNBROKEN = 100;
    private static final char NOTHING = '-';

    private final Program program;
    private final Text text;
    private final Line line;
    private final Walk walk;
    private final Walk trial;
    private final Proof proof;
    private final Corners corners;
    private final WholePoints wholePoints;
    private final Fraction fraction;
    private final Point[] snapshots;

    /** Creates a solver without variables, rows and aims. */
    public Tableaufloor() {
        program = new Program();
        text = new Text();
        line = new Line();
        walk = new Walk(program);
        trial = new Walk(program);
        proof = new Proof(program, walk);
        corners = new Corners(program, walk);
        wholePoints = new WholePoints(program);
        fraction = new Fraction();
        snapshots = new Point[MOST_SNAPSHOTS];
        for (int i = 0; i < snapshots.length; i++) {
            snapshots[i] = new Point();
        }
    }

    // Variables, texts, rows and aims.

    /** Adds a variable, with a greatest value of 100 for none, and returns its number. */
    public int addVariable(int least, int greatest)
            throws IllegalArgumentException, IllegalStateException {
        if (!areBounds(least, greatest)) {
            throw new IllegalArgumentException("bounds out of range");
        }
        if (program.variables >= MOST_VARIABLES) {
            throw new IllegalStateException("there are 3 variables");
        }
        forgetAnswers();
        return program.putVariable(least, greatest);
    }

    /** Sets the least value of a variable and returns the one before. */
    public int setLeast(int variable, int least)
            throws IndexOutOfBoundsException, IllegalArgumentException {
        demandVariable(variable);
        if (!areBounds(least, program.greatestOf(variable))) {
            throw new IllegalArgumentException("least value out of range");
        }
        int before = program.leastOf(variable);
        program.putBounds(variable, least, program.greatestOf(variable));
        forgetAnswers();
        return before;
    }

    /** Sets the greatest value of a variable, 100 for none, and returns the one before. */
    public int setGreatest(int variable, int greatest)
            throws IndexOutOfBoundsException, IllegalArgumentException {
        demandVariable(variable);
        if (!areBounds(program.leastOf(variable), greatest)) {
            throw new IllegalArgumentException("greatest value out of range");
        }
        int before = program.greatestOf(variable);
        program.putBounds(variable, program.leastOf(variable), greatest);
        forgetAnswers();
        return before;
    }

    /** Types a character behind the others and returns the length of the text. */
    public int type(char character) throws IllegalArgumentException, IllegalStateException {
        if (!Text.canBeTyped(character)) {
            throw new IllegalArgumentException("no character of a text");
        }
        if (text.length >= MOST_CHARACTERS) {
            throw new IllegalStateException("the text has 30 characters");
        }
        return text.append(character);
    }

    /** Erases the typed text and returns the length that it had. */
    public int erase() {
        int before = text.length;
        text.length = 0;
        return before;
    }

    /** Returns the fault of the typed text: 's', 'v' or 'r', or '-' if it has none. */
    public char fault() {
        text.read(program.variables);
        return text.faultKind;
    }

    /** Returns the place of the fault of the typed text. */
    public int faultAt() throws NoSuchElementException {
        text.read(program.variables);
        if (!text.hasFault()) {
            throw new NoSuchElementException("the text has no fault");
        }
        return text.faultPlace;
    }

    /** Tells whether the typed text is read as one of an aim. */
    public boolean isAim() {
        return text.beginsAsAim();
    }

    /** Tells what is typed, a row or an aim, and returns its number. */
    public int tell() throws UnsupportedOperationException, IllegalStateException {
        text.read(program.variables);
        if (text.hasFault()) {
            throw new UnsupportedOperationException("the text has a fault");
        }
        boolean tellsAim = text.beginsAsAim();
        if (!(tellsAim ? program.hasRoomForAim() : program.hasRoomForRow())) {
            throw new IllegalStateException("no room for more");
        }
        forgetAnswers();
        int number = tellsAim ? program.putAim(text) : program.putRow(text);
        text.length = 0;
        return number;
    }

    /** Drops a row and returns the number of rows that are not dropped then. */
    public int dropRow(int row) throws IndexOutOfBoundsException, IllegalStateException {
        demandLiveRow(row);
        forgetAnswers();
        return program.removeRow(row);
    }

    /** Changes the number of a row and returns the one before. */
    public int setNumber(int row, int number)
            throws IndexOutOfBoundsException, IllegalArgumentException, IllegalStateException {
        demandRow(row);
        if (number < -MOST_NUMBER || number > MOST_NUMBER) {
            throw new IllegalArgumentException("number out of range");
        }
        demandLiveRow(row);
        int before = program.numberOf(row);
        program.putNumber(row, number);
        forgetAnswers();
        return before;
    }

    /** Drops all aims and returns how many there were. */
    public int dropAims() {
        int before = program.aims;
        program.aims = 0;
        forgetAnswers();
        return before;
    }

    /** Returns the coefficient of a variable in a row, also of a dropped one. */
    public int coefficient(int row, int variable) throws IndexOutOfBoundsException {
        demandRow(row);
        demandVariable(variable);
        return program.rowCoefficient(row, variable);
    }

    /** Returns the relation of a row: '<', '>' or '='. */
    public char relation(int row) throws IndexOutOfBoundsException {
        demandRow(row);
        return program.relationOf(row);
    }

    // How a row is written.

    /** Returns the length of a row as it is written. */
    public int lineLength(int row) throws IndexOutOfBoundsException {
        demandRow(row);
        line.write(program, row);
        return line.length;
    }

    /** Returns a character of a row as it is written. */
    public char lineAt(int row, int index) throws IndexOutOfBoundsException {
        demandRow(row);
        line.write(program, row);
        if (index < 0 || index >= line.length) {
            throw new IndexOutOfBoundsException("no such index");
        }
        return line.characterAt(index);
    }

    // The best point.

    /** Returns the state: 'o', 'i' or 'u'. */
    public char state() {
        walk.findAll();
        return walk.outcome;
    }

    /** Returns the number of the open aim. */
    public int open() throws NoSuchElementException {
        walk.findAll();
        if (walk.outcome != 'u') {
            throw new NoSuchElementException("no aim is open");
        }
        return walk.openAim;
    }

    /** Returns the numerator of the best value of an aim. */
    public long valueTop(int aim) throws IndexOutOfBoundsException, NoSuchElementException {
        findValue(aim);
        return fraction.top;
    }

    /** Returns the denominator of the best value of an aim. */
    public long valueBottom(int aim) throws IndexOutOfBoundsException, NoSuchElementException {
        findValue(aim);
        return fraction.bottom;
    }

    /** Returns the numerator of the best value of an aim, found from the corners. */
    public long topByPoints(int aim) throws IndexOutOfBoundsException, NoSuchElementException {
        demandAim(aim);
        demandBest();
        corners.look();
        fraction.put(program.aimSum(aim, corners.best), corners.best.bottom);
        return fraction.top;
    }

    /** Returns the numerator of a value of the best point. */
    public long pointTop(int variable) throws IndexOutOfBoundsException, NoSuchElementException {
        findCoordinate(variable);
        return fraction.top;
    }

    /** Returns the denominator of a value of the best point. */
    public long pointBottom(int variable)
            throws IndexOutOfBoundsException, NoSuchElementException {
        findCoordinate(variable);
        return fraction.bottom;
    }

    /** Tells whether the sum of a row is just its number at the best point. */
    public boolean isTight(int row)
            throws IndexOutOfBoundsException, IllegalStateException, NoSuchElementException {
        demandLiveRow(row);
        demandBest();
        return program.sideOf(row, walk.point) == 0;
    }

    /** Returns how many rows and bounds are tight at the best point. */
    public int tight() throws NoSuchElementException {
        demandBest();
        return program.tightRows(walk.point) + program.tightBounds(walk.point);
    }

    /** Tells whether multipliers or a direction prove what the state says. */
    public boolean isProved() {
        walk.findAll();
        return program.aims == 0 || proof.isSound();
    }

    // Worth, conflicts, whole points.

    /** Returns the numerator of the worth of a row. */
    public long worthTop(int row)
            throws IndexOutOfBoundsException, IllegalStateException, NoSuchElementException {
        findWorth(row);
        return fraction.top;
    }

    /** Returns the denominator of the worth of a row. */
    public long worthBottom(int row)
            throws IndexOutOfBoundsException, IllegalStateException, NoSuchElementException {
        findWorth(row);
        return fraction.bottom;
    }

    /** Returns the rows of the conflict, as the sum of 2 to the power of their numbers. */
    public int conflict() throws IllegalStateException {
        walk.findAll();
        if (walk.outcome != 'i') {
            throw new IllegalStateException("a point fits");
        }
        int leftOut = 0;
        int inConflict = 0;
        for (int row = 0; row < program.rows; row++) {
            if (program.isLive(row)) {
                int bit = 1 << row;
                if (trial.findsFit(leftOut | bit)) {
                    inConflict |= bit;
                } else {
                    leftOut |= bit;
                }
            }
        }
        return inConflict;
    }

    /** Returns a value of the best whole point. */
    public int wholeAt(int variable)
            throws IndexOutOfBoundsException, UnsupportedOperationException,
            NoSuchElementException {
        demandVariable(variable);
        demandWhole();
        return (int) wholePoints.best.topOf(variable);
    }

    /** Returns the value of an aim at the best whole point. */
    public int wholeValue(int aim)
            throws IndexOutOfBoundsException, UnsupportedOperationException,
            NoSuchElementException {
        demandAim(aim);
        demandWhole();
        return (int) program.aimSum(aim, wholePoints.best);
    }

    // Snapshots.

    /** Keeps the best point in a snapshot and returns how the one kept before is now. */
    public char keep(int snapshot) throws IllegalArgumentException, NoSuchElementException {
        Point point = demandSnapshot(snapshot);
        demandBest();
        char before = standingOf(point);
        point.copy(walk.point);
        return before;
    }

    /** Returns how the point that a snapshot keeps is now: 'x', 'f' or 'b', or '-'. */
    public char kept(int snapshot) throws IllegalArgumentException {
        return standingOf(demandSnapshot(snapshot));
    }

    /** Returns by what the kept point is broken: a row, or a variable less 3. */
    public int brokenBy(int snapshot)
            throws IllegalArgumentException, NoSuchElementException,
            UnsupportedOperationException {
        Point point = demandSnapshot(snapshot);
        if (standingOf(point) != 'x') {
            throw new NoSuchElementException("no kept point is broken");
        }
        if (point.values != program.variables) {
            throw new UnsupportedOperationException("the point has too few values");
        }
        return program.breakerOf(point);
    }

    /** Returns the share of the rows that are not dropped which are tight. */
    public float tightShare() throws NoSuchElementException {
        demandBest();
        if (program.liveRows <= 0) {
            throw new NoSuchElementException("all rows are dropped");
        }
        return (float) program.tightRows(walk.point) / (float) program.liveRows;
    }

    // What the calls above share.

    private static boolean areBounds(int least, int greatest) {
        return least >= LEAST_LEAST && least <= GREATEST_LEAST
                && greatest >= least && greatest <= NO_GREATEST;
    }

    private void demandVariable(int variable) {
        if (variable < 0 || variable >= program.variables) {
            throw new IndexOutOfBoundsException("no such variable");
        }
    }

    private void demandRow(int row) {
        if (row < 0 || row >= program.rows) {
            throw new IndexOutOfBoundsException("no such row");
        }
    }

    private void demandLiveRow(int row) {
        demandRow(row);
        if (!program.isLive(row)) {
            throw new IllegalStateException("the row was dropped");
        }
    }

    private void demandAim(int aim) {
        if (aim < 0 || aim >= program.aims) {
            throw new IndexOutOfBoundsException("no such aim");
        }
    }

    private void demandBest() {
        walk.findAll();
        if (walk.outcome != 'o') {
            throw new NoSuchElementException("there is no best point");
        }
    }

    private void demandWhole() {
        if (!program.isNarrow()) {
            throw new UnsupportedOperationException("bounds too far apart");
        }
        wholePoints.look();
        if (!wholePoints.isFound) {
            throw new NoSuchElementException("no whole point fits");
        }
    }

    private Point demandSnapshot(int snapshot) {
        Point point = snapshot >= 0 && snapshot < snapshots.length ? snapshots[snapshot] : null;
        if (point == null) {
            throw new IllegalArgumentException("no such snapshot");
        }
        return point;
    }

    private void forgetAnswers() {
        walk.isDone = false;
        corners.isDone = false;
        wholePoints.isDone = false;
    }

    private void findValue(int aim) {
        demandAim(aim);
        walk.findAll();
        if (!walk.hasValue(aim)) {
            throw new NoSuchElementException("the aim has no best value");
        }
        // In the state 'u', too, the walk stands at a point that is best for the aims ahead.
        fraction.put(program.aimSum(aim, walk.point), walk.point.bottom);
    }

    private void findCoordinate(int variable) {
        demandVariable(variable);
        demandBest();
        fraction.put(walk.point.topOf(variable), walk.point.bottom);
    }

    private void findWorth(int row) {
        demandLiveRow(row);
        if (program.aims == 0) {
            throw new IllegalStateException("there are no aims");
        }
        walk.findAll();
        if (!walk.hasValue(0) || !trial.findsFirstValue(row)) {
            throw new NoSuchElementException("the first aim has no best value");
        }
        Point now = walk.point;
        Point then = trial.point;
        fraction.put(
                program.aimSum(0, then) * now.bottom - program.aimSum(0, now) * then.bottom,
                now.bottom * then.bottom);
    }

    private char standingOf(Point point) {
        if (point.values == NONE) {
            return NOTHING;
        }
        if (point.values != program.variables || program.breakerOf(point) != UNBROKEN) {
            return 'x';
        }
        walk.findAll();
        return walk.outcome == 'o' && point.isSame(walk.point) ? 'b' : 'f';
    }

    /** A number in lowest terms. */
    private static final class Fraction {
        private static final int MOST_TURNS = 200;

        private long top;
        private long bottom = 1;

        /** The new denominator must be greater than 0. */
        void put(long newTop, long newBottom) {
            long divisor = commonDivisor(newTop < 0 ? -newTop : newTop, newBottom);
            top = divisor > 1 ? newTop / divisor : newTop;
            bottom = divisor > 1 ? newBottom / divisor : newBottom;
        }

        private static long commonDivisor(long first, long second) {
            long divisor = first;
            long rest = second;
            // Euclid's way takes fewer than 100 turns for any two longs.
            for (int turn = 0; turn < MOST_TURNS && rest != 0; turn++) {
                long next = divisor % rest;
                divisor = rest;
                rest = next;
            }
            return divisor;
        }
    }

    /** Values of the variables over one common denominator, which is greater than 0. */
    private static final class Point {
        private final long[] tops = new long[MOST_VARIABLES];
        private long bottom = 1;
        private int values = NONE;

        long topOf(int variable) {
            return variable >= 0 && variable < tops.length ? tops[variable] : 0;
        }

        void putTop(int variable, long top) {
            if (variable >= 0 && variable < tops.length) {
                tops[variable] = top;
            }
        }

        void copy(Point other) {
            for (int i = 0; i < tops.length; i++) {
                tops[i] = other.topOf(i);
            }
            bottom = other.bottom;
            values = other.values;
        }

        boolean isSame(Point other) {
            for (int i = 0; i < tops.length; i++) {
                if (tops[i] * other.bottom != other.topOf(i) * bottom) {
                    return false;
                }
            }
            return values == other.values;
        }
    }

    /** The variables, rows and aims as they were told. */
    private static final class Program {
        private final int[] leasts = new int[MOST_VARIABLES];
        private final int[] greatests = new int[MOST_VARIABLES];
        private final int[] rowCoefficients = new int[MOST_ROWS * MOST_VARIABLES];
        private final char[] relations = new char[MOST_ROWS];
        private final int[] numbers = new int[MOST_ROWS];
        private final boolean[] lives = new boolean[MOST_ROWS];
        private final int[] aimCoefficients = new int[MOST_AIMS * MOST_VARIABLES];
        private final int[] directions = new int[MOST_AIMS];
        private int variables;
        private int rows;
        private int liveRows;
        private int aims;

        int leastOf(int variable) {
            return variable >= 0 && variable < leasts.length ? leasts[variable] : 0;
        }

        int greatestOf(int variable) {
            return variable >= 0 && variable < greatests.length
                    ? greatests[variable] : NO_GREATEST;
        }

        boolean hasGreatest(int variable) {
            return greatestOf(variable) < NO_GREATEST;
        }

        int putVariable(int least, int greatest) {
            int number = variables;
            variables++;
            putBounds(number, least, greatest);
            return number;
        }

        void putBounds(int variable, int least, int greatest) {
            if (variable >= 0 && variable < leasts.length && variable < greatests.length) {
                leasts[variable] = least;
                greatests[variable] = greatest;
            }
        }

        /** Tells whether the best whole point is looked for. */
        boolean isNarrow() {
            for (int i = 0; i < variables; i++) {
                if (!hasGreatest(i) || greatestOf(i) - leastOf(i) > MOST_WHOLE_STEPS) {
                    return false;
                }
            }
            return true;
        }

        boolean hasRoomForRow() {
            return rows < MOST_ROWS && liveRows < MOST_LIVE_ROWS;
        }

        boolean hasRoomForAim() {
            return aims < MOST_AIMS;
        }

        int putRow(Text text) {
            int row = rows;
            if (row >= 0 && row < relations.length && row < lives.length) {
                relations[row] = text.relation;
                lives[row] = true;
                rows++;
                liveRows++;
            }
            putNumber(row, text.number);
            putCoefficients(rowCoefficients, row, text);
            return row;
        }

        int putAim(Text text) {
            int aim = aims;
            if (aim >= 0 && aim < directions.length) {
                directions[aim] = text.direction;
                aims++;
            }
            putCoefficients(aimCoefficients, aim, text);
            return aim;
        }

        private static void putCoefficients(int[] all, int number, Text text) {
            for (int i = 0; i < MOST_VARIABLES; i++) {
                int place = number * MOST_VARIABLES + i;
                if (place >= 0 && place < all.length) {
                    all[place] = text.coefficientOf(i);
                }
            }
        }

        int removeRow(int row) {
            if (row >= 0 && row < lives.length && lives[row]) {
                lives[row] = false;
                liveRows--;
            }
            return liveRows;
        }

        void putNumber(int row, int number) {
            if (row >= 0 && row < numbers.length) {
                numbers[row] = number;
            }
        }

        boolean isLive(int row) {
            return row >= 0 && row < lives.length && lives[row];
        }

        char relationOf(int row) {
            return row >= 0 && row < relations.length ? relations[row] : '=';
        }

        int numberOf(int row) {
            return row >= 0 && row < numbers.length ? numbers[row] : 0;
        }

        int rowCoefficient(int row, int variable) {
            int place = row * MOST_VARIABLES + variable;
            return place >= 0 && place < rowCoefficients.length ? rowCoefficients[place] : 0;
        }

        int aimCoefficient(int aim, int variable) {
            int place = aim * MOST_VARIABLES + variable;
            return place >= 0 && place < aimCoefficients.length ? aimCoefficients[place] : 0;
        }

        /** Returns 1 for an aim that is to be as great as can be, -1 for the others. */
        int directionOf(int aim) {
            return aim >= 0 && aim < directions.length ? directions[aim] : 1;
        }

        /** Returns the value of an aim at a point times the denominator of the point. */
        long aimSum(int aim, Point point) {
            long sum = 0;
            for (int i = 0; i < MOST_VARIABLES; i++) {
                sum += aimCoefficient(aim, i) * point.topOf(i);
            }
            return sum;
        }

        /** Returns a number less than 0, 0 or greater than 0, as the sum is to the number. */
        int sideOf(int row, Point point) {
            long sum = 0;
            for (int i = 0; i < MOST_VARIABLES; i++) {
                sum += rowCoefficient(row, i) * point.topOf(i);
            }
            return Long.compare(sum, numberOf(row) * point.bottom);
        }

        private static boolean allows(char relation, int side) {
            return side == 0 || (side < 0 && relation == '<') || (side > 0 && relation == '>');
        }

        private boolean isWithin(int variable, Point point) {
            long top = point.topOf(variable);
            return top >= leastOf(variable) * point.bottom
                    && (!hasGreatest(variable) || top <= greatestOf(variable) * point.bottom);
        }

        /** Returns a row, or a variable less 3, that breaks a point, or UNBROKEN. */
        int breakerOf(Point point) {
            for (int i = 0; i < variables; i++) {
                if (!isWithin(i, point)) {
                    return i - MOST_VARIABLES;
                }
            }
            for (int row = 0; row < rows; row++) {
                if (isLive(row) && !allows(relationOf(row), sideOf(row, point))) {
                    return row;
                }
            }
            return UNBROKEN;
        }

        int tightRows(Point point) {
            int count = 0;
            for (int row = 0; row < rows; row++) {
                if (isLive(row) && sideOf(row, point) == 0) {
                    count++;
                }
            }
            return count;
        }

        int tightBounds(Point point) {
            int count = 0;
            for (int i = 0; i < variables; i++) {
                long top = point.topOf(i);
                if (top == leastOf(i) * point.bottom) {
                    count++;
                }
                if (hasGreatest(i) && top == greatestOf(i) * point.bottom) {
                    count++;
                }
            }
            return count;
        }

        /** Returns a number greater than 0 if the first point is better by the aims. */
        int compareByAims(Point first, Point second) {
            for (int aim = 0; aim < aims; aim++) {
                long firstSum = aimSum(aim, first) * second.bottom;
                long secondSum = aimSum(aim, second) * first.bottom;
                if (firstSum != secondSum) {
                    return firstSum > secondSum ? directionOf(aim) : -directionOf(aim);
                }
            }
            return 0;
        }
    }

    /** The typed text, and what was read in it. */
    private static final class Text {
        private static final char END = (char) 0;

        private final char[] characters = new char[MOST_CHARACTERS];
        private final int[] coefficients = new int[MOST_VARIABLES];
        private int length;
        private int variables;
        private int place;
        private char faultKind = NOTHING;
        private int faultPlace;
        private int direction = 1;
        private char relation = '=';
        private int number;

        static boolean canBeTyped(char character) {
            return (character >= 'a' && character <= 'z') || isDigit(character)
                    || character == '+' || character == '-'
                    || character == '<' || character == '>' || character == '=';
        }

        int append(char character) {
            if (length >= 0 && length < characters.length) {
                characters[length] = character;
                length++;
            }
            return length;
        }

        boolean beginsAsAim() {
            return length > 0 && characters.length > 0 && characters[0] == 'm';
        }

        boolean hasFault() {
            return faultKind != NOTHING;
        }

        int coefficientOf(int variable) {
            return variable >= 0 && variable < coefficients.length ? coefficients[variable] : 0;
        }

        void read(int variableCount) {
            variables = variableCount;
            place = 0;
            faultKind = NOTHING;
            faultPlace = 0;
            number = 0;
            for (int i = 0; i < coefficients.length; i++) {
                coefficients[i] = 0;
            }
            if (beginsAsAim()) {
                readAim();
            } else {
                readRow();
            }
            if (!hasFault() && place < length) {
                blame('s');
            }
            if (!hasFault() && !areCoefficientsInRange()) {
                place = length;
                blame('r');
            }
        }

        private void readAim() {
            place = 1;
            direction = here() == 'i' ? -1 : 1;
            pass(direction < 0 ? 'i' : 'a');
            pass(direction < 0 ? 'n' : 'x');
            readSum();
        }

        private void readRow() {
            readSum();
            readRelation();
            readNumber();
        }

        private void readSum() {
            readTerm(takes('-'));
            for (int terms = 1; terms < MOST_CHARACTERS; terms++) {
                if (hasFault() || (here() != '+' && here() != '-')) {
                    return;
                }
                boolean isLess = here() == '-';
                place++;
                readTerm(isLess);
            }
        }

        private void readTerm(boolean isLess) {
            if (hasFault()) {
                return;
            }
            int digit = 1;
            if (isDigit(here())) {
                digit = here() - '0';
                place++;
            }
            int variable = here() - 'a';
            if (variable < 0 || variable >= MOST_VARIABLES || variable >= coefficients.length) {
                blame('s');
            } else if (variable >= variables) {
                blame('v');
            } else {
                coefficients[variable] += isLess ? -digit : digit;
                place++;
            }
        }

        private void readRelation() {
            if (hasFault()) {
                return;
            }
            relation = here();
            if (relation == '<' || relation == '>') {
                place++;
            }
            pass('=');
        }

        private void readNumber() {
            boolean isLess = takes('-');
            if (hasFault()) {
                return;
            }
            if (!isDigit(here())) {
                blame('s');
                return;
            }
            number = here() - '0';
            place++;
            if (isDigit(here())) {
                number = number * 10 + here() - '0';
                place++;
            }
            if (isLess) {
                number = -number;
            }
        }

        private boolean areCoefficientsInRange() {
            for (int i = 0; i < coefficients.length; i++) {
                if (coefficients[i] < -MOST_COEFFICIENT || coefficients[i] > MOST_COEFFICIENT) {
                    return false;
                }
            }
            return true;
        }

        private char here() {
            return place >= 0 && place < length && place < characters.length
                    ? characters[place] : END;
        }

        private boolean takes(char character) {
            boolean isThere = !hasFault() && here() == character;
            if (isThere) {
                place++;
            }
            return isThere;
        }

        private void pass(char character) {
            if (!hasFault() && !takes(character)) {
                blame('s');
            }
        }

        private void blame(char kind) {
            faultKind = kind;
            faultPlace = place;
        }

        private static boolean isDigit(char character) {
            return character >= '0' && character <= '9';
        }
    }

    /** A row as it is written. */
    private static final class Line {
        private final char[] characters = new char[MOST_CHARACTERS];
        private int length;

        char characterAt(int index) {
            return index >= 0 && index < characters.length ? characters[index] : NOTHING;
        }

        void write(Program program, int row) {
            length = 0;
            for (int i = 0; i < program.variables; i++) {
                writeTerm(program.rowCoefficient(row, i), i);
            }
            if (length == 0) {
                put('0');
            }
            put(program.relationOf(row));
            if (program.relationOf(row) != '=') {
                put('=');
            }
            writeNumber(program.numberOf(row));
        }

        private void writeTerm(int coefficient, int variable) {
            if (coefficient == 0) {
                return;
            }
            if (coefficient < 0) {
                put('-');
            } else if (length > 0) {
                put('+');
            }
            int size = coefficient < 0 ? -coefficient : coefficient;
            if (size != 1) {
                put((char) ('0' + size));
            }
            put((char) ('a' + variable));
        }

        private void writeNumber(int number) {
            int size = number < 0 ? -number : number;
            if (number < 0) {
                put('-');
            }
            if (size >= 10) {
                put((char) ('0' + size / 10));
            }
            put((char) ('0' + size % 10));
        }

        private void put(char character) {
            if (length >= 0 && length < characters.length) {
                characters[length] = character;
                length++;
            }
        }
    }

    /**
     * All rows and bounds as sides: a point fits if, for each side, the sum of the slopes times
     * the values, and the constant, is at least 0. The first three sides are the least values,
     * with 0 for a variable that there is not; a row with '=' makes two sides.
     */
    private static final class Sides {
        private static final int MOST_SIDES = 2 * MOST_VARIABLES + 2 * MOST_LIVE_ROWS;

        private final int[] slopes = new int[MOST_SIDES * MOST_VARIABLES];
        private final int[] constants = new int[MOST_SIDES];
        private final boolean[] mirrors = new boolean[MOST_SIDES];
        private int count;

        /** The rows of the bits are left out; the number of the raised row is 1 greater. */
        void gather(Program program, int leftOut, int raised) {
            count = 0;
            for (int i = 0; i < MOST_VARIABLES; i++) {
                putBound(i, 1, -program.leastOf(i));
            }
            for (int row = 0; row < program.rows; row++) {
                if (program.isLive(row) && ((leftOut >> row) & 1) == 0) {
                    putRow(program, row, program.numberOf(row) + (row == raised ? 1 : 0));
                }
            }
            for (int i = 0; i < program.variables; i++) {
                if (program.hasGreatest(i)) {
                    putBound(i, -1, program.greatestOf(i));
                }
            }
        }

        private void putBound(int variable, int slope, int constant) {
            for (int i = 0; i < MOST_VARIABLES; i++) {
                putSlope(i, i == variable ? slope : 0);
            }
            close(constant, false);
        }

        private void putRow(Program program, int row, int number) {
            char relation = program.relationOf(row);
            if (relation != '>') {
                for (int i = 0; i < MOST_VARIABLES; i++) {
                    putSlope(i, -program.rowCoefficient(row, i));
                }
                close(number, false);
            }
            if (relation != '<') {
                for (int i = 0; i < MOST_VARIABLES; i++) {
                    putSlope(i, program.rowCoefficient(row, i));
                }
                close(-number, relation == '=');
            }
        }

        private void putSlope(int variable, int slope) {
            int place = count * MOST_VARIABLES + variable;
            if (place >= 0 && place < slopes.length) {
                slopes[place] = slope;
            }
        }

        private void close(int constant, boolean isMirror) {
            if (count >= 0 && count < constants.length && count < mirrors.length) {
                constants[count] = constant;
                mirrors[count] = isMirror;
                count++;
            }
        }

        long slopeOf(int side, int variable) {
            int place = side * MOST_VARIABLES + variable;
            return place >= 0 && place < slopes.length ? slopes[place] : 0;
        }

        long constantOf(int side) {
            return side >= 0 && side < constants.length ? constants[side] : 0;
        }

        /** Tells whether the side is the second one of a row with '='. */
        boolean isMirror(int side) {
            return side >= 0 && side < mirrors.length && mirrors[side];
        }
    }

    /**
     * A basis and its lines. How much is left at a side is called its slack. Three sides stand
     * outside, their slacks are 0; each line tells the slack of another side by theirs, and each
     * goal tells what is to be as great as can be. All numbers are taken times one scale, which
     * is greater than 0: then they are minors of the matrix of the sides, so whole and small.
     */
    private static final class Dictionary {
        private static final int COLUMNS = MOST_VARIABLES;
        private static final int CONSTANT = COLUMNS;
        private static final int WIDTH = COLUMNS + 1;
        private static final int MOST_LINES = Sides.MOST_SIDES - MOST_VARIABLES;
        private static final int MOST_GOALS = MOST_AIMS + MOST_VARIABLES;

        private final long[] cells = new long[(MOST_LINES + MOST_GOALS) * WIDTH];
        private final int[] insides = new int[MOST_LINES];
        private final int[] outsides = new int[COLUMNS];
        private int lines;
        private long scale = 1;

        /** Sets out from the point at which all variables have their least values. */
        void begin(Program program, Sides sides) {
            scale = 1;
            lines = sides.count - COLUMNS;
            for (int column = 0; column < outsides.length; column++) {
                outsides[column] = column;
            }
            for (int line = 0; line < lines && line < insides.length; line++) {
                insides[line] = COLUMNS + line;
                putLine(program, sides, line);
            }
            for (int aim = 0; aim < MOST_AIMS; aim++) {
                putAimGoal(program, aim);
            }
            for (int variable = 0; variable < MOST_VARIABLES; variable++) {
                putLeastGoal(variable);
            }
        }

        private void putLine(Program program, Sides sides, int line) {
            int side = COLUMNS + line;
            long constant = sides.constantOf(side);
            for (int column = 0; column < COLUMNS; column++) {
                long slope = sides.slopeOf(side, column);
                putCell(line, column, slope);
                constant += slope * program.leastOf(column);
            }
            putCell(line, CONSTANT, constant);
        }

        /** A goal sets out from 0, as only the ways up from there are looked at. */
        private void putAimGoal(Program program, int aim) {
            for (int column = 0; column < COLUMNS; column++) {
                putCell(goalOfAim(aim), column, aim < program.aims
                        ? program.directionOf(aim) * program.aimCoefficient(aim, column) : 0);
            }
            putCell(goalOfAim(aim), CONSTANT, 0);
        }

        private void putLeastGoal(int variable) {
            for (int column = 0; column < WIDTH; column++) {
                putCell(goalOfLeast(variable), column, column == variable ? -1 : 0);
            }
        }

        static int goalOfAim(int aim) {
            return MOST_LINES + aim;
        }

        static int goalOfLeast(int variable) {
            return MOST_LINES + MOST_AIMS + variable;
        }

        long cell(int line, int column) {
            int place = line * WIDTH + column;
            return place >= 0 && place < cells.length ? cells[place] : 0;
        }

        private void putCell(int line, int column, long number) {
            int place = line * WIDTH + column;
            if (place >= 0 && place < cells.length) {
                cells[place] = number;
            }
        }

        int insideOf(int line) {
            return line >= 0 && line < insides.length ? insides[line] : NONE;
        }

        int outsideOf(int column) {
            return column >= 0 && column < outsides.length ? outsides[column] : NONE;
        }

        /** Returns the line that tells the slack of a side, or NONE if it stands outside. */
        int lineOf(int side) {
            for (int line = 0; line < lines && line < insides.length; line++) {
                if (insides[line] == side) {
                    return line;
                }
            }
            return NONE;
        }

        /** Returns how fast the slack of a side grows with the one that stands in a column. */
        long rateOf(int side, int column) {
            if (outsideOf(column) == side) {
                return scale;
            }
            int line = lineOf(side);
            return line == NONE ? 0 : cell(line, column);
        }

        /** Returns the slack of a side now. */
        long slackOf(int side) {
            int line = lineOf(side);
            return line == NONE ? 0 : cell(line, CONSTANT);
        }

        /** The side of the line and that of the column change their places. */
        void swap(int line, int column) {
            long pivot = cell(line, column);
            if (pivot == 0 || line < 0 || line >= insides.length
                    || column < 0 || column >= outsides.length) {
                return;
            }
            for (int other = 0; other < lines; other++) {
                if (other != line) {
                    clear(other, line, column);
                }
            }
            for (int goal = 0; goal < MOST_GOALS; goal++) {
                clear(MOST_LINES + goal, line, column);
            }
            int sign = pivot < 0 ? -1 : 1;
            for (int i = 0; i < WIDTH; i++) {
                putCell(line, i, i == column ? sign * scale : -sign * cell(line, i));
            }
            scale = sign * pivot;
            int side = insides[line];
            insides[line] = outsides[column];
            outsides[column] = side;
        }

        private void clear(int other, int line, int column) {
            long pivot = cell(line, column);
            long factor = cell(other, column);
            int sign = pivot < 0 ? -1 : 1;
            for (int i = 0; i < WIDTH; i++) {
                if (i != column && scale != 0) {
                    // No rest is left: what stands here is a minor times the scale.
                    long product = pivot * cell(other, i) - factor * cell(line, i);
                    putCell(other, i, sign * product / scale);
                }
            }
            putCell(other, column, sign * factor);
        }
    }

    /** Walks from basis to basis, first to a point that fits, then by the aims to the best. */
    private static final class Walk {
        // Bland's rule comes to no basis twice, and there are only some hundreds.
        private static final int MOST_STEPS = 100000;

        private final Program program;
        private final Sides sides = new Sides();
        private final Dictionary dictionary = new Dictionary();
        private final Point point = new Point();
        private final boolean[] held = new boolean[Dictionary.COLUMNS];
        private char outcome = 'o';
        private int openAim = NONE;
        private int openColumn = NONE;
        private int brokenLine = NONE;
        private boolean isDone;

        Walk(Program program) {
            this.program = program;
        }

        /** Finds the state and, if there is one, the best point, if that is not done. */
        void findAll() {
            if (isDone) {
                return;
            }
            isDone = true;
            setOut(0, NONE);
            if (!mends()) {
                return;
            }
            for (int aim = 0; aim < program.aims; aim++) {
                if (!climbs(Dictionary.goalOfAim(aim))) {
                    outcome = 'u';
                    openAim = aim;
                    stand();
                    return;
                }
            }
            for (int i = 0; i < program.variables; i++) {
                climbs(Dictionary.goalOfLeast(i));
            }
            stand();
        }

        /** Tells whether the first aim has a best value with one row raised, and goes there. */
        boolean findsFirstValue(int raised) {
            setOut(0, raised);
            boolean isFound = mends() && climbs(Dictionary.goalOfAim(0));
            stand();
            return isFound;
        }

        /** Tells whether a point fits with the rows of some bits left out. */
        boolean findsFit(int leftOut) {
            setOut(leftOut, NONE);
            return mends();
        }

        private void setOut(int leftOut, int raised) {
            sides.gather(program, leftOut, raised);
            dictionary.begin(program, sides);
            for (int i = 0; i < held.length; i++) {
                held[i] = false;
            }
            openAim = NONE;
            openColumn = NONE;
        }

        boolean hasValue(int aim) {
            return outcome == 'o' || (outcome == 'u' && aim < openAim);
        }

        /** Tells whether a point fits, and goes to one. */
        private boolean mends() {
            outcome = 'i';
            for (int step = 0; step < MOST_STEPS; step++) {
                brokenLine = firstBrokenLine();
                if (brokenLine == NONE) {
                    outcome = 'o';
                    return true;
                }
                int column = firstGrowing(brokenLine);
                if (column == NONE) {
                    return false;
                }
                dictionary.swap(brokenLine, column);
            }
            return false;
        }

        /** Tells whether the goal has a best value, goes there, and holds it from then on. */
        private boolean climbs(int goal) {
            for (int step = 0; step < MOST_STEPS; step++) {
                int column = firstGrowing(goal);
                if (column == NONE) {
                    hold(goal);
                    return true;
                }
                int line = firstStop(column);
                if (line == NONE) {
                    openColumn = column;
                    return false;
                }
                dictionary.swap(line, column);
            }
            return false;
        }

        private void hold(int goal) {
            for (int column = 0; column < held.length; column++) {
                if (dictionary.cell(goal, column) != 0) {
                    held[column] = true;
                }
            }
        }

        private int firstBrokenLine() {
            int first = NONE;
            for (int line = 0; line < dictionary.lines; line++) {
                if (dictionary.cell(line, Dictionary.CONSTANT) < 0
                        && (first == NONE
                        || dictionary.insideOf(line) < dictionary.insideOf(first))) {
                    first = line;
                }
            }
            return first;
        }

        private int firstGrowing(int line) {
            int first = NONE;
            for (int column = 0; column < held.length; column++) {
                if (!held[column] && dictionary.cell(line, column) > 0
                        && (first == NONE
                        || dictionary.outsideOf(column) < dictionary.outsideOf(first))) {
                    first = column;
                }
            }
            return first;
        }

        private int firstStop(int column) {
            int first = NONE;
            for (int line = 0; line < dictionary.lines; line++) {
                if (dictionary.cell(line, column) < 0
                        && (first == NONE || stopsSooner(line, first, column))) {
                    first = line;
                }
            }
            return first;
        }

        private boolean stopsSooner(int line, int other, int column) {
            long way = dictionary.cell(line, Dictionary.CONSTANT)
                    * -dictionary.cell(other, column);
            long otherWay = dictionary.cell(other, Dictionary.CONSTANT)
                    * -dictionary.cell(line, column);
            return way < otherWay || (way == otherWay
                    && dictionary.insideOf(line) < dictionary.insideOf(other));
        }

        private void stand() {
            point.values = program.variables;
            point.bottom = dictionary.scale;
            for (int i = 0; i < MOST_VARIABLES; i++) {
                point.putTop(i,
                        program.leastOf(i) * dictionary.scale + dictionary.slackOf(i));
            }
        }
    }

    /** Checks what a walk found against the rows and bounds as they were told. */
    private static final class Proof {
        private final Program program;
        private final Walk walk;
        private final long[] slopes = new long[MOST_VARIABLES];
        private long constant;

        Proof(Program program, Walk walk) {
            this.program = program;
            this.walk = walk;
        }

        boolean isSound() {
            if (walk.outcome == 'i') {
                return provesNone();
            }
            if (program.breakerOf(walk.point) != UNBROKEN) {
                return false;
            }
            return walk.outcome == 'u' ? provesOpen() : provesBest();
        }

        /** No point fits if sides add up to a number less than 0 without variables. */
        private boolean provesNone() {
            clear();
            int line = walk.brokenLine;
            add(walk.dictionary.scale, walk.dictionary.insideOf(line));
            if (!addOutsides(line) || constant >= 0) {
                return false;
            }
            for (int i = 0; i < slopes.length; i++) {
                if (slopes[i] != 0) {
                    return false;
                }
            }
            return true;
        }

        /** The value is best if sides add up to the way that is left from any point to it. */
        private boolean provesBest() {
            clear();
            if (!addOutsides(Dictionary.goalOfAim(0))) {
                return false;
            }
            long factor = walk.dictionary.scale * program.directionOf(0);
            for (int i = 0; i < slopes.length; i++) {
                if (slopes[i] != -factor * program.aimCoefficient(0, i)) {
                    return false;
                }
            }
            return constant * walk.point.bottom == factor * program.aimSum(0, walk.point);
        }

        /** The aim is open if one can go on for ever in a direction in which it gets better. */
        private boolean provesOpen() {
            clear();
            for (int i = 0; i < slopes.length; i++) {
                slopes[i] = walk.dictionary.rateOf(i, walk.openColumn);
            }
            for (int side = 0; side < walk.sides.count; side++) {
                if (gainOfSide(side) < 0) {
                    return false;
                }
            }
            for (int aim = 0; aim < walk.openAim; aim++) {
                if (gainOfAim(aim) != 0) {
                    return false;
                }
            }
            return gainOfAim(walk.openAim) > 0;
        }

        private long gainOfSide(int side) {
            long gain = 0;
            for (int i = 0; i < slopes.length; i++) {
                gain += walk.sides.slopeOf(side, i) * slopes[i];
            }
            return gain;
        }

        private long gainOfAim(int aim) {
            long gain = 0;
            for (int i = 0; i < slopes.length; i++) {
                gain += program.aimCoefficient(aim, i) * slopes[i];
            }
            return gain * program.directionOf(aim);
        }

        private void clear() {
            constant = 0;
            for (int i = 0; i < slopes.length; i++) {
                slopes[i] = 0;
            }
        }

        private void add(long multiplier, int side) {
            constant += multiplier * walk.sides.constantOf(side);
            for (int i = 0; i < slopes.length; i++) {
                slopes[i] += multiplier * walk.sides.slopeOf(side, i);
            }
        }

        /** Tells whether the multipliers that a line gives are all at least 0. */
        private boolean addOutsides(int line) {
            for (int column = 0; column < Dictionary.COLUMNS; column++) {
                long multiplier = -walk.dictionary.cell(line, column);
                if (multiplier < 0) {
                    return false;
                }
                add(multiplier, walk.dictionary.outsideOf(column));
            }
            return true;
        }
    }

    /** The second way: all points at which three sides are tight. */
    private static final class Corners {
        private final Program program;
        private final Sides sides;
        private final Point best = new Point();
        private final Point corner = new Point();
        private boolean isFound;
        private boolean isDone;

        /** The sides are those of a walk that has found the best point. */
        Corners(Program program, Walk walk) {
            this.program = program;
            sides = walk.sides;
        }

        /** Finds the best corner, if that is not done. */
        void look() {
            if (isDone) {
                return;
            }
            isDone = true;
            isFound = false;
            for (int first = 0; first < sides.count; first++) {
                for (int second = first + 1; second < sides.count; second++) {
                    // The second side of a row with '=' would only give the same corners again.
                    if (!sides.isMirror(first) && !sides.isMirror(second)) {
                        lookAlong(first, second);
                    }
                }
            }
        }

        private void lookAlong(int first, int second) {
            for (int third = second + 1; third < sides.count; third++) {
                if (!sides.isMirror(third)) {
                    lookAt(first, second, third);
                }
            }
        }

        private void lookAt(int first, int second, int third) {
            if (meet(first, second, third) && program.breakerOf(corner) == UNBROKEN
                    && (!isFound || program.compareByAims(corner, best) > 0)) {
                best.copy(corner);
                isFound = true;
            }
        }

        /** Tells whether three sides meet in one point, which is the corner then. */
        private boolean meet(int first, int second, int third) {
            long determinant = 0;
            for (int i = 0; i < MOST_VARIABLES; i++) {
                determinant += sides.slopeOf(first, i) * cross(second, third, i);
            }
            if (determinant == 0) {
                return false;
            }
            int sign = determinant < 0 ? 1 : -1;
            for (int i = 0; i < MOST_VARIABLES; i++) {
                corner.putTop(i, sign * (sides.constantOf(first) * cross(second, third, i)
                        + sides.constantOf(second) * cross(third, first, i)
                        + sides.constantOf(third) * cross(first, second, i)));
            }
            corner.bottom = determinant < 0 ? -determinant : determinant;
            corner.values = program.variables;
            return true;
        }

        /** Returns a part of the cross product of the slopes of two sides. */
        private long cross(int first, int second, int part) {
            int next = part == MOST_VARIABLES - 1 ? 0 : part + 1;
            int last = part == 0 ? MOST_VARIABLES - 1 : part - 1;
            return sides.slopeOf(first, next) * sides.slopeOf(second, last)
                    - sides.slopeOf(first, last) * sides.slopeOf(second, next);
        }
    }

    /** The best point among those that fit and have whole values only. */
    private static final class WholePoints {
        private final Program program;
        private final Point best = new Point();
        private final Point whole = new Point();
        private boolean isFound;
        private boolean isDone;

        WholePoints(Program program) {
            this.program = program;
        }

        /**
         * Finds the best whole point, if that is not done. The values rise, so that of points
         * that are as good the right one comes first.
         */
        void look() {
            if (isDone) {
                return;
            }
            isDone = true;
            isFound = false;
            whole.values = program.variables;
            for (int a = 0; a <= stepsOf(0); a++) {
                for (int b = 0; b <= stepsOf(1); b++) {
                    for (int c = 0; c <= stepsOf(2); c++) {
                        whole.putTop(0, program.leastOf(0) + a);
                        whole.putTop(1, program.leastOf(1) + b);
                        whole.putTop(2, program.leastOf(2) + c);
                        lookAt();
                    }
                }
            }
        }

        private int stepsOf(int variable) {
            int steps = variable < program.variables
                    ? program.greatestOf(variable) - program.leastOf(variable) : 0;
            return steps < MOST_WHOLE_STEPS ? steps : MOST_WHOLE_STEPS;
        }

        private void lookAt() {
            if (program.breakerOf(whole) == UNBROKEN
                    && (!isFound || program.compareByAims(whole, best) > 0)) {
                best.copy(whole);
                isFound = true;
            }
        }
    }
}
