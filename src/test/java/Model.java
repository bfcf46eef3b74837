import java.util.ArrayDeque;
import java.util.ArrayList;
import java.util.Arrays;
import java.util.List;

/**
 * The document once more, in another form: a grid of knots, a stack of the latest ones, and lists
 * of runs. It tests no argument; ModelTest says which calls are refused.
 */
final class Model {
    final int[][] knot = new int[12][10];
    final int[][] plan = new int[12][10];
    final int[] wool = new int[8];
    final int[] speed = {1, 1};
    final int[] other = {0, 0};
    final List<ArrayDeque<int[]>> told = new ArrayList<>();
    int hour = 0;
    int unpicked = 0;

    Model() {
        for (int[] column : knot) {
            Arrays.fill(column, -1);
        }
        Arrays.fill(wool, 30);
        told.add(new ArrayDeque<>());
        told.add(new ArrayDeque<>());
    }

    Model copy() {
        Model m = new Model();
        for (int x = 0; x < 12; x++) {
            m.knot[x] = knot[x].clone();
            m.plan[x] = plan[x].clone();
        }
        for (int w = 0; w < 2; w++) {
            m.speed[w] = speed[w];
            m.other[w] = other[w];
            for (int[] run : told.get(w)) {
                m.told.get(w).add(run.clone());
            }
        }
        System.arraycopy(wool, 0, m.wool, 0, 8);
        m.hour = hour;
        m.unpicked = unpicked;
        return m;
    }

    /** The own cells in the order of the knots. */
    static List<int[]> cells(int w) {
        List<int[]> cells = new ArrayList<>();
        for (int y = 0; y < 10; y++) {
            for (int i = 0; i < 6; i++) {
                cells.add(new int[] {w == 0 ? i : 11 - i, y});
            }
        }
        return cells;
    }

    int knot(int[] cell) {
        return knot[cell[0]][cell[1]];
    }

    int plan(int[] cell) {
        return plan[cell[0]][cell[1]];
    }

    int[] next(int w) {
        for (int[] cell : cells(w)) {
            if (knot(cell) == -1) {
                return cell;
            }
        }
        return null;
    }

    int plan(int x, int y, int wide, int high, int colour) {
        int n = 0;
        for (int i = x; i < x + wide; i++) {
            for (int j = y; j < y + high; j++) {
                n += plan[i][j] == colour ? 0 : 1;
                plan[i][j] = colour;
            }
        }
        return n;
    }

    int bring(int colour, int knots) {
        return wool[colour] = Math.min(200, wool[colour] + knots);
    }

    int setSpeed(int w, int s) {
        int before = speed[w];
        speed[w] = s;
        return before;
    }

    int tell(int w, int colour, int knots) {
        told.get(w).addLast(new int[] {colour, knots});
        return told.get(w).size();
    }

    int hush(int w) {
        int sum = weaver(w, 2);
        told.get(w).clear();
        return sum;
    }

    int unpick(int w, int knots) {
        List<int[]> cells = cells(w);
        int left = weaver(w, 3);
        for (int i = 0; i < knots; i++) {
            int[] cell = cells.get(--left);
            bring(knot(cell), 1);
            knot[cell[0]][cell[1]] = -1;
            unpicked++;
        }
        return left;
    }

    boolean rowDone(int w, int y) {
        for (int i = 0; i < 6; i++) {
            if (knot[6 * w + i][y] == -1) {
                return false;
            }
        }
        return true;
    }

    int sees(int w, int x, int y) {
        if (x / 6 == w) {
            return knot[x][y];
        }
        return x == 6 - w && rowDone(w, y) ? knot[x][y] : -2;
    }

    int weaver(int w, int what) {
        int[] next = next(w);
        int sum = 0;
        switch (what) {
            case 0: return speed[w];
            case 1: return told.get(w).size();
            case 2:
                for (int[] run : told.get(w)) {
                    sum += run[1];
                }
                return sum;
            case 3:
                for (int[] cell : cells(w)) {
                    sum += knot(cell) == -1 ? 0 : 1;
                }
                return sum;
            case 4: return next == null ? -1 : next[0];
            case 5: return next == null ? -1 : next[1];
            default: return other[w];
        }
    }

    int run(int w, int index, int what) {
        return new ArrayList<>(told.get(w)).get(index)[what];
    }

    int count(int what) {
        int sum = 0;
        switch (what) {
            case 0: return hour;
            case 1: return weaver(0, 3) + weaver(1, 3);
            case 2:
                for (int x = 0; x < 12; x++) {
                    for (int y = 0; y < 10; y++) {
                        sum += knot[x][y] != -1 && knot[x][y] != plan[x][y] ? 1 : 0;
                    }
                }
                return sum;
            case 3:
            case 4:
                for (int y = 0; y < 10; y++) {
                    if (rowDone(0, y) && rowDone(1, y)) {
                        boolean torn = knot[5][y] == knot[6][y] ^ plan[5][y] == plan[6][y];
                        sum += what == 3 || torn ? 1 : 0;
                    }
                }
                return sum;
            case 5: return Arrays.stream(wool).sum();
            case 6: return (int) Arrays.stream(wool).filter(n -> n == 0).count();
            default: return unpicked;
        }
    }

    /** The plan of the cells from the next one on. */
    private List<Integer> ahead(int w) {
        List<Integer> colours = new ArrayList<>();
        for (int[] cell : cells(w)) {
            if (knot(cell) == -1) {
                colours.add(plan(cell));
            }
        }
        return colours;
    }

    int advise(int w) {
        List<Integer> colours = ahead(w);
        if (colours.isEmpty()) {
            return -1;
        }
        int length = 0;
        for (int colour : colours) {
            if (colour != colours.get(0)) {
                break;
            }
            length++;
        }
        return 100 * colours.get(0) + length;
    }

    int runs(int w) {
        int runs = 0;
        int last = -1;
        for (int colour : ahead(w)) {
            runs += colour == last ? 0 : 1;
            last = colour;
        }
        return runs;
    }

    int mends(int w) {
        int knots = 0;
        boolean off = false;
        for (int[] cell : cells(w)) {
            if (knot(cell) != -1) {
                off = off || knot(cell) != plan(cell);
                knots += off ? 1 : 0;
            }
        }
        return knots;
    }

    boolean idle(int w) {
        return told.get(w).isEmpty() || next(w) == null;
    }

    private int hour() {
        int knots = 0;
        for (int w = 0; w < 2; w++) {
            for (int i = 0; i < speed[w] && !idle(w); i++) {
                int[] run = told.get(w).peekFirst();
                int colour = run[0];
                for (int j = 0; j < 8 && wool[colour] == 0; j++) {
                    colour = colour == 7 ? 0 : colour + 1;
                }
                if (wool[colour] == 0) {
                    break;
                }
                int[] cell = next(w);
                wool[colour]--;
                knot[cell[0]][cell[1]] = colour;
                other[w] += colour == run[0] ? 0 : 1;
                if (--run[1] == 0) {
                    told.get(w).removeFirst();
                }
                knots++;
            }
        }
        hour++;
        return knots;
    }

    int pass(int hours) {
        int knots = 0;
        for (int i = 0; i < hours; i++) {
            knots += hour();
        }
        return knots;
    }

    int done(int w) {
        Model m = copy();
        for (int hours = 0; hours <= 100; hours++) {
            if (m.idle(w)) {
                return hours;
            }
            m.hour();
        }
        return -1;
    }

    int foresee(int hours, int what) {
        Model m = copy();
        m.pass(hours);
        return m.count(what == 0 ? 1 : what == 1 ? 2 : 4);
    }

    double share() {
        int knots = count(1);
        return knots == 0 ? 0 : (double) (knots - count(2)) / knots;
    }

    long digest() {
        long d = 983;
        for (int what = 0; what < 8; what++) {
            d = d * 31 + count(what);
        }
        for (int y = 0; y < 10; y++) {
            for (int x = 0; x < 12; x++) {
                d = (d * 31 + knot[x][y]) * 31 + plan[x][y];
            }
        }
        for (int w = 0; w < 2; w++) {
            for (int what = 0; what < 7; what++) {
                d = d * 31 + weaver(w, what);
            }
            for (int[] run : told.get(w)) {
                d = (d * 31 + run[0]) * 31 + run[1];
            }
        }
        for (int n : wool) {
            d = d * 31 + n;
        }
        return d;
    }
}
