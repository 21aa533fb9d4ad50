import java.math.BigInteger;
import java.util.ArrayList;
import java.util.Arrays;
import java.util.List;

/** A second reading of the document, written with all of Java and in another way than the class, to compare with. */
final class Model {
    /** A procedure; the number of its '{' is all that tells it from others. */
    record Procedure(int open) { }

    static final class Subpath {
        final List<long[]> points = new ArrayList<>();
        boolean closed = false;

        Subpath copy() {
            Subpath copy = new Subpath();
            copy.points.addAll(points);
            copy.closed = closed;
            return copy;
        }

        /** The lines from point to point, and the one back to the first if it is closed or is to count as closed. */
        List<long[]> lines(boolean countsAsClosed) {
            List<long[]> lines = new ArrayList<>();
            for (int k = 1; k < points.size(); k++) {
                lines.add(line(points.get(k - 1), points.get(k)));
            }
            if (closed || countsAsClosed) {
                lines.add(line(points.get(points.size() - 1), points.get(0)));
            }
            return lines;
        }

        private static long[] line(long[] from, long[] to) {
            return new long[] {from[0], from[1], to[0], to[1]};
        }
    }

    static final class State {
        long[] x = {1, 0, 0};
        long[] y = {0, 1, 0};
        int gray = 0;
        int width = 2;
        boolean[][] clip = new boolean[24][24];
        List<Subpath> path = new ArrayList<>();

        State() {
            setClip();
        }

        void setClip() {
            for (boolean[] row : clip) {
                Arrays.fill(row, true);
            }
        }

        State copy() {
            State copy = new State();
            copy.x = x.clone();
            copy.y = y.clone();
            copy.gray = gray;
            copy.width = width;
            for (int j = 0; j < 24; j++) {
                copy.clip[j] = clip[j].clone();
            }
            for (Subpath subpath : path) {
                copy.path.add(subpath.copy());
            }
            return copy;
        }

        int size() {
            return path.stream().mapToInt(subpath -> subpath.points.size()).sum();
        }

        Subpath last() {
            return path.get(path.size() - 1);
        }

        long[] current() {
            Subpath last = last();
            return last.points.get(last.closed ? 0 : last.points.size() - 1);
        }

        long[] device(long ux, long uy) {
            return new long[] {x[0] * ux + x[1] * uy + x[2], y[0] * ux + y[1] * uy + y[2]};
        }

        long factor() {
            return Math.max(Math.abs(x[0]), Math.abs(x[1]));
        }
    }

    private static final class Fault extends RuntimeException {
        private static final long serialVersionUID = 1L;
        final int code;

        Fault(int code) {
            super(null, null, false, false);
            this.code = code;
        }
    }

    private static final class Exit extends RuntimeException {
        private static final long serialVersionUID = 1L;

        Exit() {
            super(null, null, false, false);
        }
    }

    /** What each operator takes off, lowest first: n a number, p a procedure, v any value. */
    private static final String[] TAKES = ("nn nn nn nn nn n nn vv v v vv n - - p np npp np nnnp p - - - nn n - n n -"
            + " nn nn nn nn nnnnnn - - - - - - - - - nn nnnn").split(" ");
    private static final String[] PUTS = ("1 1 1 1 1 1 1 1 0 2 2 1 1 0 0 0 0 0 0 0 0 0 0 0 0 0 0 0 0"
            + " 0 0 0 0 0 0 2 0 0 0 0 0 0 0 1 0").split(" ");

    final List<int[]> tokens = new ArrayList<>();
    final int[][] page = new int[24][24];
    List<Object> stack = new ArrayList<>();
    State state = new State();
    int steps = 0;
    int place = -1;
    private Object[] variables;
    private List<State> copies;
    private int inProgress;
    private int loops;
    private int at;

    int run() {
        stack = new ArrayList<>();
        state = new State();
        variables = new Object[8];
        Arrays.fill(variables, 0);
        copies = new ArrayList<>();
        inProgress = 0;
        loops = 0;
        steps = 0;
        place = -1;
        try {
            execute(0);
            return 0;
        } catch (Fault fault) {
            place = at;
            return fault.code;
        }
    }

    /** Executes up to and with the '}' that ends what was begun, or up to the end of the program. */
    private void execute(int from) {
        int next = from;
        while (next < tokens.size()) {
            at = next;
            if (steps == 600) {
                throw new Fault(11);
            }
            steps++;
            int kind = tokens.get(next)[0];
            int value = tokens.get(next)[1];
            if (kind == 3) {
                return;
            }
            if (kind == 2) {
                put(new Procedure(next));
                next = behind(next);
                continue;
            }
            if (kind == 0) {
                put(value);
            } else if (kind == 4) {
                put(variables[value]);
            } else if (kind == 5) {
                need(!stack.isEmpty(), 1);
                variables[value] = stack.remove(stack.size() - 1);
            } else {
                operate(value);
            }
            next++;
        }
    }

    private int behind(int open) {
        int depth = 0;
        for (int k = open;; k++) {
            depth += tokens.get(k)[0] == 2 ? 1 : tokens.get(k)[0] == 3 ? -1 : 0;
            if (depth == 0) {
                return k + 1;
            }
        }
    }

    private void put(Object value) {
        need(stack.size() < 24, 2);
        stack.add(value);
    }

    private static void need(boolean holds, int otherwise) {
        if (!holds) {
            throw new Fault(otherwise);
        }
    }

    private void operate(int op) {
        String takes = TAKES[op].equals("-") ? "" : TAKES[op];
        int under = stack.size() - takes.length();
        need(under >= 0, 1);
        List<Object> taken = new ArrayList<>(stack.subList(under, stack.size()));
        for (int k = 0; k < takes.length(); k++) {
            char wanted = takes.charAt(k);
            need(wanted == 'v' || (wanted == 'p') == (taken.get(k) instanceof Procedure), 3);
        }
        need(op < 30 || op > 35 || !state.path.isEmpty(), 6);
        need(under + Integer.parseInt(PUTS[op]) <= 24, 2);
        int[] n = new int[6];
        for (int k = 0; k < takes.length(); k++) {
            n[k] = taken.get(k) instanceof Integer number ? number : 0;
        }
        check(op, n, under);
        boolean mayBegin = op >= 14 && op <= 19;
        if (mayBegin && begins(op, n)) {
            need(inProgress < 12, 9);
        }
        stack.subList(under, stack.size()).clear();
        if (mayBegin) {
            begin(op, n, taken);
        } else if (op < 14 || op == 35 || op == 43) {
            stack.addAll(results(op, n, taken));
        } else {
            draw(op, n);
        }
    }

    /** The errors from 4 on, but for 9. */
    private void check(int op, int[] n, int under) {
        need((op != 3 && op != 4) || n[1] != 0, 4);
        need(state.size() + newPoints(op) <= 48, 7);
        need(op != 21 || copies.size() < 4, 7);
        need(op != 24 || (n[0] >= 1 && n[0] <= 4), 10);
        need(op != 26 || (n[0] >= 0 && n[0] <= 3), 10);
        need(op != 27 || (n[0] >= 1 && n[0] <= 6), 10);
        need(op != 11 || (n[0] >= 0 && n[0] <= under - 1), 10);
        need(op != 18 || n[1] != 0, 12);
        for (long[] point : targets(op, n)) {
            need(Math.abs(point[0]) <= 200 && Math.abs(point[1]) <= 200, 5);
        }
        need(op != 24 || state.factor() * n[0] <= 64, 5);
        need(op != 20 || loops > 0, 8);
    }

    private int newPoints(int op) {
        if (op == 29 || op == 31) {
            boolean replaces = !state.path.isEmpty() && !state.last().closed && state.last().points.size() == 1;
            return replaces ? 0 : 1;
        }
        int again = !state.path.isEmpty() && state.last().closed ? 1 : 0;
        if (op == 30 || op == 32) {
            return 1 + again;
        }
        return op == 33 ? 8 + again : 0;
    }

    /** The device points that the limits bind. */
    private List<long[]> targets(int op, int[] n) {
        List<long[]> points = new ArrayList<>();
        if (op == 23 || op == 29 || op == 30) {
            points.add(state.device(n[0], n[1]));
        } else if (op == 31 || op == 32) {
            long[] from = state.current();
            long[] to = state.device(n[0], n[1]);
            points.add(new long[] {from[0] + to[0] - state.x[2], from[1] + to[1] - state.y[2]});
        } else if (op == 33) {
            for (int k = 0; k < 6; k += 2) {
                points.add(state.device(n[k], n[k + 1]));
            }
        } else if (op == 44) {
            long right = (long) n[0] + n[2];
            long top = (long) n[1] + n[3];
            points.add(state.device(n[0], n[1]));
            points.add(state.device(right, n[1]));
            points.add(state.device(right, top));
            points.add(state.device(n[0], top));
        }
        return points;
    }

    private static boolean begins(int op, int[] n) {
        if (op == 15) {
            return n[0] != 0;
        }
        if (op == 17) {
            return n[0] > 0;
        }
        return op != 18 || (n[1] > 0 ? n[0] <= n[2] : n[0] >= n[2]);
    }

    private void begin(int op, int[] n, List<Object> taken) {
        if (!begins(op, n)) {
            return;
        }
        int last = taken.size() - 1;
        int body = ((Procedure) taken.get(op == 16 && n[0] != 0 ? 1 : last)).open() + 1;
        inProgress++;
        if (op <= 16) {
            try {
                execute(body);
            } finally {
                inProgress--;
            }
            return;
        }
        loops++;
        try {
            if (op == 18) {
                BigInteger end = BigInteger.valueOf(n[2]);
                BigInteger stride = BigInteger.valueOf(n[1]);
                BigInteger now = BigInteger.valueOf(n[0]);
                while (now.compareTo(end) * stride.signum() <= 0 && now.bitLength() <= 31) {
                    put(now.intValue());
                    execute(body);
                    now = now.add(stride);
                }
            } else {
                for (int k = 0; op == 19 || k < n[0]; k++) {
                    execute(body);
                }
            }
        } catch (Exit exit) {
            // The loop is over.
        } finally {
            inProgress--;
            loops--;
        }
    }

    private List<Object> results(int op, int[] n, List<Object> taken) {
        switch (op) {
            case 0: return List.of(n[0] + n[1]);
            case 1: return List.of(n[0] - n[1]);
            case 2: return List.of(n[0] * n[1]);
            case 3: return List.of((int) ((long) n[0] / n[1]));
            case 4: return List.of((int) ((long) n[0] % n[1]));
            case 5: return List.of(-n[0]);
            case 6: return List.of(n[0] < n[1] ? 1 : 0);
            case 7: return List.of(taken.get(0).equals(taken.get(1)) ? 1 : 0);
            case 8: return List.of();
            case 9: return List.of(taken.get(0), taken.get(0));
            case 10: return List.of(taken.get(1), taken.get(0));
            case 11: return List.of(stack.get(stack.size() - 1 - n[0]));
            case 12: return List.of(stack.size());
            case 13: stack.clear(); return List.of();
            case 35: return userPoint();
            default: return List.of(n[0] < 0 || n[0] > 23 || n[1] < 0 || n[1] > 23 ? -1 : page[n[1]][n[0]]);
        }
    }

    private List<Object> userPoint() {
        long u = state.current()[0] - state.x[2];
        long v = state.current()[1] - state.y[2];
        long determinant = state.x[0] * state.y[1] - state.x[1] * state.y[0];
        long x = Math.floorDiv(state.y[1] * u - state.x[1] * v, determinant);
        long y = Math.floorDiv(state.x[0] * v - state.y[0] * u, determinant);
        return List.of((int) x, (int) y);
    }

    private void draw(int op, int[] n) {
        List<long[]> targets = targets(op, n);
        switch (op) {
            case 20: throw new Exit();
            case 21: copies.add(state.copy()); break;
            case 22: state = copies.isEmpty() ? state : copies.remove(copies.size() - 1); break;
            case 23: state.x[2] = targets.get(0)[0]; state.y[2] = targets.get(0)[1]; break;
            case 24: state.x[0] *= n[0]; state.x[1] *= n[0]; state.y[0] *= n[0]; state.y[1] *= n[0]; break;
            case 25:
                state.x = new long[] {state.x[1], -state.x[0], state.x[2]};
                state.y = new long[] {state.y[1], -state.y[0], state.y[2]};
                break;
            case 26: state.gray = n[0]; break;
            case 27: state.width = n[0]; break;
            case 28: state.path.clear(); break;
            case 29: case 31: moveTo(targets.get(0)); break;
            case 30: case 32: lineTo(targets.get(0)); break;
            case 33: curveTo(targets); break;
            case 34: state.last().closed = true; break;
            case 41: state.setClip(); break;
            case 42: Arrays.stream(page).forEach(row -> Arrays.fill(row, 0)); break;
            case 44:
                state.path.clear();
                moveTo(targets.get(0));
                targets.subList(1, 4).forEach(this::lineTo);
                state.last().closed = true;
                break;
            default: paint(op); break;
        }
    }

    private void moveTo(long[] point) {
        if (!state.path.isEmpty() && !state.last().closed && state.last().points.size() == 1) {
            state.path.remove(state.path.size() - 1);
        }
        Subpath subpath = new Subpath();
        subpath.points.add(point);
        state.path.add(subpath);
    }

    private void lineTo(long[] point) {
        if (state.last().closed) {
            moveTo(state.current());
        }
        state.last().points.add(point);
    }

    private void curveTo(List<long[]> abc) {
        long[] p = state.current();
        for (long k = 1; k <= 8; k++) {
            long[] to = new long[2];
            for (int c = 0; c < 2; c++) {
                double t = k / 8.0;
                // Exact: eighths to the third power and coordinates below 256 need few of a double's bits.
                double s = 1 - t;
                double sum = s * s * s * p[c] + 3 * t * s * s * abc.get(0)[c] + 3 * t * t * s * abc.get(1)[c] + t * t * t * abc.get(2)[c];
                to[c] = (long) Math.floor(sum + 0.5);
            }
            lineTo(to);
        }
    }

    private void paint(int op) {
        for (int j = 0; j < 24; j++) {
            for (int i = 0; i < 24; i++) {
                boolean covered = op == 38 ? isStroked(i, j) : isInside(i, j, op == 37 || op == 40);
                if (op >= 39) {
                    state.clip[j][i] &= covered;
                } else if (covered && state.clip[j][i]) {
                    page[j][i] = state.gray;
                }
            }
        }
        if (op < 39) {
            state.path.clear();
        }
    }

    private boolean isInside(int i, int j, boolean evenOdd) {
        int winding = 0;
        double height = j + 0.5;
        for (Subpath subpath : state.path) {
            for (long[] line : subpath.lines(true)) {
                boolean fromBelow = line[1] < height;
                if (fromBelow == line[3] < height) {
                    continue;
                }
                // The crossing's x is whole + part / (2 (d - b)); with a positive divisor it can be compared.
                long divisor = 2 * (line[3] - line[1]);
                long crossing = line[0] * divisor + (line[2] - line[0]) * (2 * j + 1 - 2 * line[1]);
                long sign = Long.signum(divisor);
                if (2 * crossing * sign <= (2 * i + 1) * divisor * sign) {
                    winding += fromBelow ? 1 : -1;
                }
            }
        }
        return evenOdd ? winding % 2 != 0 : winding != 0;
    }

    /** The nearest point of the line is from + t (to - from), t the share along it, kept between 0 and 1. */
    private boolean isStroked(int i, int j) {
        for (Subpath subpath : state.path) {
            for (long[] line : subpath.lines(false)) {
                long dx = 2 * (line[2] - line[0]);
                long dy = 2 * (line[3] - line[1]);
                long mx = 2 * i + 1 - 2 * line[0];
                long my = 2 * j + 1 - 2 * line[1];
                long whole = Math.max(1, dx * dx + dy * dy);
                long share = Math.min(whole, Math.max(0, mx * dx + my * dy));
                BigInteger awayX = BigInteger.valueOf(mx * whole - share * dx);
                BigInteger awayY = BigInteger.valueOf(my * whole - share * dy);
                BigInteger reach = BigInteger.valueOf(whole * state.width);
                if (awayX.multiply(awayX).add(awayY.multiply(awayY)).compareTo(reach.multiply(reach)) <= 0) {
                    return true;
                }
            }
        }
        return false;
    }
}
