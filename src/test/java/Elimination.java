import java.math.BigInteger;
import java.util.ArrayList;
import java.util.LinkedHashSet;
import java.util.List;

/**
 * How great a sum can be where inequalities hold, found by eliminating one variable after the
 * other. It shares no way of thinking with the program, so that it can judge it.
 */
final class Elimination {
    /** A fraction in lowest terms. */
    record Fraction(BigInteger top, BigInteger bottom) {
        static Fraction of(BigInteger top, BigInteger bottom) {
            BigInteger divisor = top.gcd(bottom);
            if (bottom.signum() < 0) {
                divisor = divisor.negate();
            }
            return new Fraction(top.divide(divisor), bottom.divide(divisor));
        }

        static Fraction of(long number) {
            return new Fraction(BigInteger.valueOf(number), BigInteger.ONE);
        }

        Fraction less(Fraction other) {
            return of(top.multiply(other.bottom).subtract(other.top.multiply(bottom)),
                    bottom.multiply(other.bottom));
        }

        Fraction plus(Fraction other) {
            return less(new Fraction(other.top.negate(), other.bottom));
        }

        Fraction times(long number) {
            return of(top.multiply(BigInteger.valueOf(number)), bottom);
        }

        int compare(Fraction other) {
            return less(other).top.signum();
        }
    }

    /** Whether a point fits at all, and the greatest value, or null if there is none. */
    record Answer(boolean fits, Fraction greatest) { }

    // Each line stands for: the sum of its parts times the variables, and its last part, is at
    // least 0 (or just 0 for those of `same`).
    private final int variables;
    private final List<List<BigInteger>> atLeast = new ArrayList<>();
    private final List<List<BigInteger>> same = new ArrayList<>();

    Elimination(int variables) {
        this.variables = variables;
    }

    void addAtLeast(long[] parts, long constant) {
        atLeast.add(line(parts, 0, constant));
    }

    void addSame(long[] parts, long constant) {
        same.add(line(parts, 0, constant));
    }

    /** Holds a sum at a value. */
    void hold(long[] parts, Fraction value) {
        List<BigInteger> line = new ArrayList<>();
        for (int i = 0; i < variables; i++) {
            line.add(BigInteger.valueOf(parts[i]).multiply(value.bottom()));
        }
        line.add(BigInteger.ZERO);
        line.add(value.top().negate());
        same.add(line);
    }

    private List<BigInteger> line(long[] parts, long goal, long constant) {
        List<BigInteger> line = new ArrayList<>();
        for (int i = 0; i < variables; i++) {
            line.add(BigInteger.valueOf(parts[i]));
        }
        line.add(BigInteger.valueOf(goal));
        line.add(BigInteger.valueOf(constant));
        return line;
    }

    Answer greatest(long[] parts) {
        List<List<BigInteger>> inequalities = new ArrayList<>(atLeast);
        List<List<BigInteger>> equalities = new ArrayList<>(same);
        equalities.add(line(parts, -1, 0));
        for (int i = 0; i < variables; i++) {
            inequalities = without(i, inequalities, equalities);
        }
        return read(inequalities, equalities);
    }

    private Answer read(List<List<BigInteger>> inequalities, List<List<BigInteger>> equalities) {
        Fraction least = null;
        Fraction greatest = null;
        List<List<BigInteger>> all = new ArrayList<>(inequalities);
        for (List<BigInteger> line : equalities) {
            all.add(line);
            all.add(scaled(line, BigInteger.ONE.negate()));
        }
        for (List<BigInteger> line : all) {
            BigInteger slope = line.get(variables);
            BigInteger constant = line.get(variables + 1);
            if (slope.signum() == 0) {
                if (constant.signum() < 0) {
                    return new Answer(false, null);
                }
                continue;
            }
            Fraction bound = Fraction.of(constant.negate(), slope);
            if (slope.signum() > 0) {
                least = least == null || bound.compare(least) > 0 ? bound : least;
            } else {
                greatest = greatest == null || bound.compare(greatest) < 0 ? bound : greatest;
            }
        }
        boolean fits = least == null || greatest == null || least.compare(greatest) <= 0;
        return new Answer(fits, fits ? greatest : null);
    }

    private static List<List<BigInteger>> without(int variable,
            List<List<BigInteger>> inequalities, List<List<BigInteger>> equalities) {
        LinkedHashSet<List<BigInteger>> left = new LinkedHashSet<>();
        for (int e = 0; e < equalities.size(); e++) {
            List<BigInteger> with = equalities.get(e);
            if (with.get(variable).signum() != 0) {
                equalities.remove(e);
                for (int i = 0; i < equalities.size(); i++) {
                    equalities.set(i, cleared(equalities.get(i), with, variable));
                }
                for (List<BigInteger> line : inequalities) {
                    left.add(lowest(cleared(line, with, variable)));
                }
                return new ArrayList<>(left);
            }
        }
        for (List<BigInteger> line : inequalities) {
            int sign = line.get(variable).signum();
            if (sign == 0) {
                left.add(lowest(line));
            }
            for (List<BigInteger> other : inequalities) {
                if (sign > 0 && other.get(variable).signum() < 0) {
                    left.add(lowest(sum(scaled(line, other.get(variable).negate()),
                            scaled(other, line.get(variable)))));
                }
            }
        }
        return new ArrayList<>(left);
    }

    /** Returns the line, times a number greater than 0, without the variable. */
    private static List<BigInteger> cleared(List<BigInteger> line, List<BigInteger> with,
            int variable) {
        BigInteger factor = with.get(variable);
        BigInteger times = line.get(variable).negate();
        if (factor.signum() < 0) {
            times = times.negate();
        }
        return sum(scaled(line, factor.abs()), scaled(with, times));
    }

    private static List<BigInteger> scaled(List<BigInteger> line, BigInteger factor) {
        List<BigInteger> result = new ArrayList<>();
        for (BigInteger part : line) {
            result.add(part.multiply(factor));
        }
        return result;
    }

    private static List<BigInteger> sum(List<BigInteger> first, List<BigInteger> second) {
        List<BigInteger> result = new ArrayList<>();
        for (int i = 0; i < first.size(); i++) {
            result.add(first.get(i).add(second.get(i)));
        }
        return result;
    }

    private static List<BigInteger> lowest(List<BigInteger> line) {
        BigInteger divisor = BigInteger.ZERO;
        for (BigInteger part : line) {
            divisor = divisor.gcd(part);
        }
        if (divisor.signum() == 0) {
            return line;
        }
        List<BigInteger> result = new ArrayList<>();
        for (BigInteger part : line) {
            result.add(part.divide(divisor));
        }
        return result;
    }
}
