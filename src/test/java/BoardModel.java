import java.util.ArrayList;
import java.util.List;
import java.util.NoSuchElementException;

/** The document told a second time, with Java's own floats, doubles and Math, for ModelTest to compare with. */
public final class BoardModel {
    private static final class Step {
        int sort;
        int form;
        int source = -1;
        Number operand;
    }

    private static final class Gauge {
        int kind;
        Number value;
        Number high;
        Number low;
        int readings;
        int swings;
        final List<Step> steps = new ArrayList<>();
    }

    private final Gauge[] at = new Gauge[12];

    private static Number toNumber(int kind, long bits) {
        switch (kind) {
            case 0: return (int) bits;
            case 1: return bits;
            case 2: return Float.intBitsToFloat((int) bits);
            default: return Double.longBitsToDouble(bits);
        }
    }

    private static long toBits(Number value) {
        if (value instanceof Float) {
            return Float.floatToRawIntBits((Float) value);
        }
        return value instanceof Double ? Double.doubleToRawLongBits((Double) value) : value.longValue();
    }

    private static boolean good(int kind, long bits) {
        boolean narrow = kind == 0 || kind == 2;
        if (narrow && bits != (int) bits) {
            return false;
        }
        Number value = toNumber(kind, bits);
        return !Double.isNaN(value.doubleValue());
    }

    private static int order(Number a, Number b) {
        if (a instanceof Float || a instanceof Double) {
            return Double.compare(a.doubleValue(), b.doubleValue());
        }
        return Long.compare(a.longValue(), b.longValue());
    }

    private static boolean negative(Number a) {
        return Math.copySign(1.0, a.doubleValue()) < 0;
    }

    private Gauge there(int g) {
        if (g < 0 || g > 11 || at[g] == null) {
            throw new NoSuchElementException();
        }
        return at[g];
    }

    private static void ask(boolean right) {
        if (!right) {
            throw new IllegalArgumentException();
        }
    }

    private static void allow(boolean right) {
        if (!right) {
            throw new IllegalStateException();
        }
    }

    public boolean fit(int g, int kind) {
        if (g < 0 || g > 11) {
            throw new NoSuchElementException();
        }
        ask(kind >= 0 && kind <= 3);
        Gauge before = at[g];
        boolean changes = before != null && before.kind != kind;
        for (int i = 0; i < 12; i++) {
            if (changes && i != g && at[i] != null) {
                allow(at[i].steps.stream().noneMatch(step -> step.source == g));
            }
        }
        at[g] = new Gauge();
        at[g].kind = kind;
        at[g].value = toNumber(kind, 0);
        return before != null;
    }

    public int step(int g, int sort) {
        Gauge gauge = there(g);
        ask(sorts(gauge.kind).indexOf(sort) >= 0 && List.of(0, 3, 5, 6, 7).contains(sort));
        return add(gauge, sort, 0, -1, null);
    }

    public int stepBy(int g, int sort, long bits) {
        Gauge gauge = there(g);
        ask(sorts(gauge.kind).contains(sort) && List.of(1, 2, 4).contains(sort) && good(gauge.kind, bits));
        return add(gauge, sort, 1, -1, toNumber(gauge.kind, bits));
    }

    public int stepOf(int g, int sort, int h) {
        Gauge gauge = there(g);
        Gauge other = there(h);
        ask(sorts(gauge.kind).contains(sort) && List.of(1, 2, 4).contains(sort) && other.kind == gauge.kind);
        return add(gauge, sort, 2, h, null);
    }

    private static List<Integer> sorts(int kind) {
        switch (kind) {
            case 0:
            case 1: return List.of(0, 1, 2);
            case 2: return List.of(0, 1, 2, 3, 4);
            default: return List.of(0, 1, 2, 3, 4, 5, 6, 7);
        }
    }

    private static int add(Gauge gauge, int sort, int form, int source, Number operand) {
        allow(gauge.steps.size() < 8);
        Step step = new Step();
        step.sort = sort;
        step.form = form;
        step.source = source;
        step.operand = operand;
        gauge.steps.add(step);
        return gauge.steps.size();
    }

    public int bare(int g) {
        int before = there(g).steps.size();
        at[g].steps.clear();
        return before;
    }

    public long read(int g, long bits) {
        Gauge gauge = there(g);
        ask(good(gauge.kind, bits));
        return reading(gauge, toNumber(gauge.kind, bits));
    }

    public long hand(int g, int h) {
        Gauge from = there(g);
        Gauge to = there(h);
        ask(g != h && from.kind <= to.kind);
        Number value = from.value;
        switch (to.kind) {
            case 0: return reading(to, value.intValue());
            case 1: return reading(to, value.longValue());
            case 2: return reading(to, value.floatValue());
            default: return reading(to, value.doubleValue());
        }
    }

    private long reading(Gauge gauge, Number came) {
        Number value = came;
        for (Step step : gauge.steps) {
            Number operand = step.form == 2 ? at[step.source].value : step.operand;
            value = done(step.sort, value, operand);
        }
        gauge.readings++;
        gauge.swings += negative(value) != negative(gauge.value) ? 1 : 0;
        gauge.value = value;
        gauge.high = gauge.high == null || order(value, gauge.high) > 0 ? value : gauge.high;
        gauge.low = gauge.low == null || order(value, gauge.low) < 0 ? value : gauge.low;
        return toBits(value);
    }

    private static Number done(int sort, Number value, Number operand) {
        if (sort == 1) {
            return order(value, operand) >= 0 ? value : operand;
        }
        if (sort == 2) {
            return order(value, operand) <= 0 ? value : operand;
        }
        if (value instanceof Integer) {
            return Math.abs((Integer) value);
        }
        if (value instanceof Long) {
            return Math.abs((Long) value);
        }
        if (value instanceof Float) {
            float a = (Float) value;
            return sort == 0 ? Math.abs(a) : sort == 3 ? Math.signum(a) : Math.copySign(a, (Float) operand);
        }
        double a = (Double) value;
        switch (sort) {
            case 0: return Math.abs(a);
            case 3: return Math.signum(a);
            case 4: return Math.copySign(a, (Double) operand);
            case 5: return Math.floor(a);
            case 6: return Math.ceil(a);
            default: return Math.rint(a);
        }
    }

    public boolean clear(int g) {
        Gauge gauge = there(g);
        boolean before = gauge.high != null;
        gauge.high = null;
        gauge.low = null;
        return before;
    }

    public long value(int g) {
        return toBits(there(g).value);
    }

    public long mark(int g, boolean high) {
        Gauge gauge = there(g);
        allow(gauge.high != null);
        return toBits(high ? gauge.high : gauge.low);
    }

    public int about(int g, int what) {
        Gauge gauge = there(g);
        ask(what >= 0 && what <= 5);
        int taking = 0;
        for (Gauge other : at) {
            taking += other == null ? 0 : (int) other.steps.stream().filter(step -> step.source == g).count();
        }
        int sign = negative(gauge.value) ? 1 : 0;
        int[] all = {gauge.kind, gauge.steps.size(), gauge.readings, gauge.swings, sign, taking};
        return all[what];
    }

    public int stepAt(int g, int k, int what) {
        Gauge gauge = there(g);
        if (k < 0 || k >= gauge.steps.size()) {
            throw new NoSuchElementException();
        }
        ask(what >= 0 && what <= 2);
        Step step = gauge.steps.get(k);
        return what == 0 ? step.sort : what == 1 ? step.form : step.source;
    }

    private List<Number> ofKind(int kind) {
        List<Number> values = new ArrayList<>();
        for (Gauge gauge : at) {
            if (gauge != null && gauge.kind == kind) {
                values.add(gauge.value);
            }
        }
        values.sort(BoardModel::order);
        return values;
    }

    public int rank(int g) {
        Gauge gauge = there(g);
        return (int) ofKind(gauge.kind).stream().filter(value -> order(value, gauge.value) <= 0).count();
    }

    public long most(int kind, boolean high) {
        ask(kind >= 0 && kind <= 3);
        List<Number> values = ofKind(kind);
        allow(!values.isEmpty());
        return toBits(values.get(high ? values.size() - 1 : 0));
    }

    public int gauges() {
        int count = 0;
        for (Gauge gauge : at) {
            count += gauge != null ? 1 : 0;
        }
        return count;
    }
}
