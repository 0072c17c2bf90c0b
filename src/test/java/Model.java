import java.util.ArrayList;
import java.util.Arrays;
import java.util.List;
import java.util.NoSuchElementException;
import java.util.regex.Matcher;
import java.util.regex.Pattern;

/**
 * What the document says, written in another way than the program: texts by patterns, best points
 * by elimination. A call answers with a Long or a Float, or with the class of the exception.
 */
final class Model {
    private static final class Row {
        final long[] parts = new long[3];
        char relation;
        long number;
        boolean isDropped;
    }

    private static final class Aim {
        final long[] parts = new long[3];
        boolean isMax;
    }

    /** What is known of the best point. */
    private static final class Best {
        char state;
        int open = -1;
        final List<Elimination.Fraction> values = new ArrayList<>();
        List<Elimination.Fraction> point;
    }

    private final List<int[]> bounds = new ArrayList<>();
    private final List<Row> rows = new ArrayList<>();
    private final List<Aim> aims = new ArrayList<>();
    private final List<List<Elimination.Fraction>> snapshots =
            new ArrayList<>(Arrays.asList(null, null, null, null));
    private String text = "";
    private Best best;
    private long[] whole;
    private boolean isWholeKnown;

    Object call(String name, int first, int second) {
        switch (name) {
            case "addVariable": return addVariable(first, second);
            case "setLeast": return setBound(first, 0, second);
            case "setGreatest": return setBound(first, 1, second);
            case "type": return type((char) first);
            case "erase": return erase();
            case "fault": return (long) faultOf(text)[0];
            case "faultAt": return faultOf(text)[0] == '-'
                    ? NoSuchElementException.class : (Object) (long) faultOf(text)[1];
            case "isAim": return text.startsWith("m") ? 1L : 0L;
            case "tell": return tell();
            case "dropRow": return dropRow(first);
            case "setNumber": return setNumber(first, second);
            case "dropAims": return dropAims();
            case "coefficient": return !hasRow(first) || !hasVariable(second)
                    ? IndexOutOfBoundsException.class : (Object) rows.get(first).parts[second];
            case "relation": return !hasRow(first)
                    ? IndexOutOfBoundsException.class : (Object) (long) rows.get(first).relation;
            case "lineLength": return !hasRow(first)
                    ? IndexOutOfBoundsException.class : (Object) (long) line(first).length();
            case "lineAt": return !hasRow(first) || second < 0 || second >= line(first).length()
                    ? IndexOutOfBoundsException.class
                    : (Object) (long) line(first).charAt(second);
            default: return callOnBest(name, first);
        }
    }

    private Object callOnBest(String name, int first) {
        switch (name) {
            case "state": return (long) find().state;
            case "open": return find().state != 'u'
                    ? NoSuchElementException.class : (Object) (long) find().open;
            case "valueTop": return part(value(first, false), true);
            case "valueBottom": return part(value(first, false), false);
            case "topByPoints": return part(value(first, true), true);
            case "pointTop": return part(coordinate(first), true);
            case "pointBottom": return part(coordinate(first), false);
            case "isTight": return isTight(first);
            case "tight": return find().state != 'o'
                    ? NoSuchElementException.class : (Object) (tightRows() + tightBounds());
            case "isProved": return 1L;
            case "worthTop": return part(worth(first), true);
            case "worthBottom": return part(worth(first), false);
            case "conflict": return conflict();
            case "wholeAt": return wholeAt(first);
            case "wholeValue": return wholeValue(first);
            case "keep": return keep(first);
            case "kept": return first < 0 || first > 3
                    ? IllegalArgumentException.class : (Object) (long) standing(first);
            case "brokenBy": return brokenBy(first);
            case "tightShare": return tightShare();
            default: throw new IllegalArgumentException(name);
        }
    }

    private static Object part(Object value, boolean isTop) {
        if (value instanceof Elimination.Fraction fraction) {
            return (isTop ? fraction.top() : fraction.bottom()).longValueExact();
        }
        return value;
    }

    private boolean hasVariable(int variable) {
        return variable >= 0 && variable < bounds.size();
    }

    private boolean hasRow(int row) {
        return row >= 0 && row < rows.size();
    }

    private void change() {
        best = null;
        isWholeKnown = false;
    }

    private static boolean areBounds(int least, int greatest) {
        return Math.abs((long) least) <= 50 && least <= greatest && greatest <= 100;
    }

    private Object addVariable(int least, int greatest) {
        if (!areBounds(least, greatest)) {
            return IllegalArgumentException.class;
        }
        if (bounds.size() == 3) {
            return IllegalStateException.class;
        }
        bounds.add(new int[] {least, greatest});
        change();
        return bounds.size() - 1L;
    }

    private Object setBound(int variable, int which, int bound) {
        if (!hasVariable(variable)) {
            return IndexOutOfBoundsException.class;
        }
        int[] old = bounds.get(variable).clone();
        int[] changed = old.clone();
        changed[which] = bound;
        if (!areBounds(changed[0], changed[1])) {
            return IllegalArgumentException.class;
        }
        bounds.set(variable, changed);
        change();
        return (long) old[which];
    }

    private Object type(char character) {
        if (!String.valueOf(character).matches("[a-z0-9+<>=-]")) {
            return IllegalArgumentException.class;
        }
        if (text.length() == 30) {
            return IllegalStateException.class;
        }
        text += character;
        return (long) text.length();
    }

    private Object erase() {
        long length = text.length();
        text = "";
        return length;
    }

    private static Pattern pattern(String read, String letters) {
        String term = "[0-9]?[" + letters + "]";
        String sum = "-?" + term + "([+-]" + term + ")*";
        return Pattern.compile(read.startsWith("m")
                ? "m(ax|in)" + sum : sum + "(<=|>=|=)-?[0-9][0-9]?");
    }

    private static boolean canBegin(Pattern pattern, String begin) {
        Matcher matcher = pattern.matcher(begin);
        return matcher.matches() || matcher.hitEnd();
    }

    private int[] faultOf(String read) {
        Pattern any = pattern(read, "abc");
        // '#' is never typed: it stands for no letter.
        Pattern there = pattern(read, "#" + "abc".substring(0, bounds.size()));
        for (int i = 0; i < read.length(); i++) {
            String begin = read.substring(0, i + 1);
            if (!canBegin(there, begin)) {
                return new int[] {canBegin(any, begin) ? 'v' : 's', i};
            }
        }
        if (!there.matcher(read).matches()) {
            return new int[] {'s', read.length()};
        }
        for (long part : parts(read)) {
            if (part < -9 || part > 9) {
                return new int[] {'r', read.length()};
            }
        }
        return new int[] {'-', 0};
    }

    private static long[] parts(String read) {
        String sum = read.replaceAll("^m..", "").replaceAll("[<>=].*$", "");
        long[] parts = new long[3];
        Matcher term = Pattern.compile("([+-]?)([0-9]?)([abc])").matcher(sum);
        while (term.find()) {
            long digit = term.group(2).isEmpty() ? 1 : Long.parseLong(term.group(2));
            parts[term.group(3).charAt(0) - 'a'] += term.group(1).equals("-") ? -digit : digit;
        }
        return parts;
    }

    private Object tell() {
        if (faultOf(text)[0] != '-') {
            return UnsupportedOperationException.class;
        }
        if (text.startsWith("m")) {
            if (aims.size() == 3) {
                return IllegalStateException.class;
            }
            Aim aim = new Aim();
            System.arraycopy(parts(text), 0, aim.parts, 0, 3);
            aim.isMax = text.startsWith("max");
            aims.add(aim);
            text = "";
            change();
            return aims.size() - 1L;
        }
        if (rows.size() == 12 || liveRows() == 6) {
            return IllegalStateException.class;
        }
        Row row = new Row();
        System.arraycopy(parts(text), 0, row.parts, 0, 3);
        row.relation = text.replaceAll("[^<>=]", "").charAt(0);
        row.number = Long.parseLong(text.substring(text.indexOf('=') + 1));
        rows.add(row);
        text = "";
        change();
        return rows.size() - 1L;
    }

    private long liveRows() {
        return rows.stream().filter(row -> !row.isDropped).count();
    }

    private Object dropRow(int row) {
        if (!hasRow(row)) {
            return IndexOutOfBoundsException.class;
        }
        if (rows.get(row).isDropped) {
            return IllegalStateException.class;
        }
        rows.get(row).isDropped = true;
        change();
        return liveRows();
    }

    private Object setNumber(int row, int number) {
        if (!hasRow(row)) {
            return IndexOutOfBoundsException.class;
        }
        if (number < -99 || number > 99) {
            return IllegalArgumentException.class;
        }
        if (rows.get(row).isDropped) {
            return IllegalStateException.class;
        }
        long before = rows.get(row).number;
        rows.get(row).number = number;
        change();
        return before;
    }

    private Object dropAims() {
        long before = aims.size();
        aims.clear();
        change();
        return before;
    }

    private String line(int number) {
        Row row = rows.get(number);
        String sum = "";
        for (int i = 0; i < 3; i++) {
            if (row.parts[i] != 0) {
                sum += "+" + row.parts[i] + "abc".charAt(i);
            }
        }
        sum = sum.replace("+-", "-").replaceAll("1([abc])", "$1").replaceAll("^[+]", "");
        String relation = row.relation == '=' ? "=" : row.relation + "=";
        return (sum.isEmpty() ? "0" : sum) + relation + row.number;
    }

    private Elimination elimination(int without, int raised) {
        Elimination elimination = new Elimination(bounds.size());
        for (int i = 0; i < bounds.size(); i++) {
            long[] unit = new long[3];
            unit[i] = 1;
            elimination.addAtLeast(unit, -bounds.get(i)[0]);
            if (bounds.get(i)[1] < 100) {
                unit[i] = -1;
                elimination.addAtLeast(unit, bounds.get(i)[1]);
            }
        }
        for (int i = 0; i < rows.size(); i++) {
            Row row = rows.get(i);
            long number = row.number + (i == raised ? 1 : 0);
            if (row.isDropped || (without & 1 << i) != 0) {
                continue;
            }
            if (row.relation == '=') {
                elimination.addSame(row.parts, -number);
            } else if (row.relation == '>') {
                elimination.addAtLeast(row.parts, -number);
            } else {
                elimination.addAtLeast(negated(row.parts), number);
            }
        }
        return elimination;
    }

    private static long[] negated(long[] parts) {
        return new long[] {-parts[0], -parts[1], -parts[2]};
    }

    private boolean fits(int without, int raised) {
        return elimination(without, raised).greatest(new long[3]).fits();
    }

    /** Returns the best value of an aim, or null; no other aims must be ahead. */
    private static Elimination.Fraction bestValue(Elimination elimination, long[] parts,
            boolean isMax) {
        Elimination.Answer answer = elimination.greatest(isMax ? parts : negated(parts));
        if (answer.greatest() == null) {
            return null;
        }
        return isMax ? answer.greatest() : Elimination.Fraction.of(0).less(answer.greatest());
    }

    private Best find() {
        if (best != null) {
            return best;
        }
        best = new Best();
        if (!fits(0, -1)) {
            best.state = 'i';
            return best;
        }
        Elimination elimination = elimination(0, -1);
        for (int i = 0; i < aims.size(); i++) {
            Aim aim = aims.get(i);
            Elimination.Fraction value = bestValue(elimination, aim.parts, aim.isMax);
            if (value == null) {
                best.state = 'u';
                best.open = i;
                return best;
            }
            best.values.add(value);
            elimination.hold(aim.parts, value);
        }
        best.state = 'o';
        best.point = new ArrayList<>();
        for (int i = 0; i < bounds.size(); i++) {
            long[] unit = new long[3];
            unit[i] = 1;
            Elimination.Fraction value = bestValue(elimination, unit, false);
            best.point.add(value);
            elimination.hold(unit, value);
        }
        return best;
    }

    private Object value(int aim, boolean isByPoints) {
        if (aim < 0 || aim >= aims.size()) {
            return IndexOutOfBoundsException.class;
        }
        if (aim >= find().values.size() || (isByPoints && find().state != 'o')) {
            return NoSuchElementException.class;
        }
        return find().values.get(aim);
    }

    private Object coordinate(int variable) {
        if (!hasVariable(variable)) {
            return IndexOutOfBoundsException.class;
        }
        return find().state != 'o' ? NoSuchElementException.class : find().point.get(variable);
    }

    private static Elimination.Fraction sum(long[] parts, List<Elimination.Fraction> point) {
        Elimination.Fraction sum = Elimination.Fraction.of(0);
        for (int i = 0; i < point.size(); i++) {
            sum = sum.plus(point.get(i).times(parts[i]));
        }
        return sum;
    }

    private static int side(Row row, List<Elimination.Fraction> point) {
        return sum(row.parts, point).compare(Elimination.Fraction.of(row.number));
    }

    private Object isTight(int row) {
        if (!hasRow(row)) {
            return IndexOutOfBoundsException.class;
        }
        if (rows.get(row).isDropped) {
            return IllegalStateException.class;
        }
        if (find().state != 'o') {
            return NoSuchElementException.class;
        }
        return side(rows.get(row), find().point) == 0 ? 1L : 0L;
    }

    private long tightRows() {
        return rows.stream()
                .filter(row -> !row.isDropped && side(row, find().point) == 0).count();
    }

    private long tightBounds() {
        long count = 0;
        for (int i = 0; i < bounds.size(); i++) {
            for (int bound : bounds.get(i)) {
                boolean isBound = bound < 100;
                if (isBound && find().point.get(i).compare(Elimination.Fraction.of(bound)) == 0) {
                    count++;
                }
            }
        }
        return count;
    }

    private Object worth(int row) {
        if (!hasRow(row)) {
            return IndexOutOfBoundsException.class;
        }
        if (rows.get(row).isDropped || aims.isEmpty()) {
            return IllegalStateException.class;
        }
        Aim aim = aims.get(0);
        Elimination.Fraction now = fits(0, -1)
                ? bestValue(elimination(0, -1), aim.parts, aim.isMax) : null;
        Elimination.Fraction then = fits(0, row)
                ? bestValue(elimination(0, row), aim.parts, aim.isMax) : null;
        return now == null || then == null ? NoSuchElementException.class : then.less(now);
    }

    private Object conflict() {
        if (fits(0, -1)) {
            return IllegalStateException.class;
        }
        int without = 0;
        for (int i = 0; i < rows.size(); i++) {
            if (rows.get(i).isDropped || !fits(without | 1 << i, -1)) {
                without |= 1 << i;
            }
        }
        return (long) (((1 << rows.size()) - 1) & ~without);
    }

    private Object wholeProblem() {
        for (int[] bound : bounds) {
            if (bound[1] == 100 || bound[1] - bound[0] > 6) {
                return UnsupportedOperationException.class;
            }
        }
        if (!isWholeKnown) {
            whole = findWhole();
            isWholeKnown = true;
        }
        return whole == null ? NoSuchElementException.class : null;
    }

    private long[] findWhole() {
        List<long[]> points = new ArrayList<>();
        points.add(new long[3]);
        for (int i = 0; i < bounds.size(); i++) {
            List<long[]> longer = new ArrayList<>();
            for (long[] point : points) {
                for (int value = bounds.get(i)[0]; value <= bounds.get(i)[1]; value++) {
                    long[] next = point.clone();
                    next[i] = value;
                    longer.add(next);
                }
            }
            points = longer;
        }
        points.removeIf(point -> rows.stream()
                .anyMatch(row -> !row.isDropped && !holds(row, wholeSum(row.parts, point))));
        for (Aim aim : aims) {
            long sign = aim.isMax ? 1 : -1;
            long top = points.stream().mapToLong(p -> sign * wholeSum(aim.parts, p))
                    .max().orElse(0);
            points.removeIf(p -> sign * wholeSum(aim.parts, p) != top);
        }
        for (int i = 0; i < 3; i++) {
            int at = i;
            long least = points.stream().mapToLong(p -> p[at]).min().orElse(0);
            points.removeIf(p -> p[at] != least);
        }
        return points.isEmpty() ? null : points.get(0);
    }

    private static long wholeSum(long[] parts, long[] point) {
        return parts[0] * point[0] + parts[1] * point[1] + parts[2] * point[2];
    }

    private static boolean holds(Row row, long sum) {
        return row.relation == '<' ? sum <= row.number
                : row.relation == '>' ? sum >= row.number : sum == row.number;
    }

    private Object wholeAt(int variable) {
        if (!hasVariable(variable)) {
            return IndexOutOfBoundsException.class;
        }
        Object problem = wholeProblem();
        return problem != null ? problem : (Object) whole[variable];
    }

    private Object wholeValue(int aim) {
        if (aim < 0 || aim >= aims.size()) {
            return IndexOutOfBoundsException.class;
        }
        Object problem = wholeProblem();
        return problem != null ? problem : (Object) wholeSum(aims.get(aim).parts, whole);
    }

    /** Returns the row, or the variable less 3, that breaks a point, or 100. */
    private long breaker(List<Elimination.Fraction> point) {
        for (int i = 0; i < bounds.size(); i++) {
            int[] bound = bounds.get(i);
            if (point.get(i).compare(Elimination.Fraction.of(bound[0])) < 0
                    || (bound[1] < 100
                    && point.get(i).compare(Elimination.Fraction.of(bound[1])) > 0)) {
                return i - 3;
            }
        }
        for (int i = 0; i < rows.size(); i++) {
            Row row = rows.get(i);
            int side = side(row, point);
            boolean isBroken = row.relation == '<' ? side > 0
                    : row.relation == '>' ? side < 0 : side != 0;
            if (!row.isDropped && isBroken) {
                return i;
            }
        }
        return 100;
    }

    private char standing(int snapshot) {
        List<Elimination.Fraction> point = snapshots.get(snapshot);
        if (point == null) {
            return '-';
        }
        if (point.size() != bounds.size() || breaker(point) != 100) {
            return 'x';
        }
        return point.equals(find().point) ? 'b' : 'f';
    }

    private Object keep(int snapshot) {
        if (snapshot < 0 || snapshot > 3) {
            return IllegalArgumentException.class;
        }
        if (find().state != 'o') {
            return NoSuchElementException.class;
        }
        long before = standing(snapshot);
        snapshots.set(snapshot, new ArrayList<>(find().point));
        return before;
    }

    private Object brokenBy(int snapshot) {
        if (snapshot < 0 || snapshot > 3) {
            return IllegalArgumentException.class;
        }
        if (standing(snapshot) != 'x') {
            return NoSuchElementException.class;
        }
        if (snapshots.get(snapshot).size() != bounds.size()) {
            return UnsupportedOperationException.class;
        }
        return breaker(snapshots.get(snapshot));
    }

    private Object tightShare() {
        if (find().state != 'o' || liveRows() == 0) {
            return NoSuchElementException.class;
        }
        return (float) tightRows() / (float) liveRows();
    }

    int variableCount() {
        return bounds.size();
    }

    int rowCount() {
        return rows.size();
    }

    String typed() {
        return text;
    }
}
