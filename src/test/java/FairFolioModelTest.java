import java.util.ArrayList;
import java.util.Arrays;
import java.util.TreeMap;

/**
 * Runs of calls on a fair and on a second, independent telling of the document (queues and those inside as
 * lists, turns as a table of pavilion and minute): each answer is compared, and at the end the whole picture.
 * The runs are of many lengths, so that the pictures are of all times of a day.
 */
public final class FairFolioModelTest {
    private static final int RUNS = 6000;
    // The picture at the end takes 113 more, of the 512 that the document grants.
    private static final int MOST_CALLS = 399;
    // The kinds of the calls that may change something, as often as they are to come.
    private static final int[] CHANGES = {0, 1, 1, 2, 2, 2, 2, 3, 4, 4, 4, 5, 5, 5, 5, 6, 6, 6, 6, 7};

    /** A row of numbers that look mixed, the same in each run of the test. */
    private static final class Mixer {
        private long state;

        Mixer(int seed) {
            state = seed * 7919L + 17;
        }

        int below(int bound) {
            state = state * 6364136223846793005L + 1442695040888963407L;
            return (int) ((state >>> 33) % bound);
        }
    }

    private static final class Model {
        final int[] room = {2, 2, 2, 2, 2, 2};
        final int[] time = {5, 5, 5, 5, 5, 5};
        final boolean[] closed = new boolean[6];
        final int[] stock = {10, 10, 10, 10, 10, 10};
        final int[] demand = new int[6];
        final int[][] sent = new int[8][6];
        final boolean[][] stamp = new boolean[8][6];
        final int[] end = new int[8];
        final ArrayList<ArrayList<Integer>> plans = lists(8);
        // A queue is told in two rows: those who wait by a turn, and those behind them.
        final ArrayList<ArrayList<Integer>> byTurn = lists(6);
        final ArrayList<ArrayList<Integer>> plain = lists(6);
        final ArrayList<ArrayList<Integer>> within = lists(6);
        // For each pavilion, who has the turn of a minute to come.
        final ArrayList<TreeMap<Integer, Integer>> turns = new ArrayList<>();
        // The minutes of the turns by which visitors wait.
        final int[] usedTurn = {-1, -1, -1, -1, -1, -1, -1, -1};
        int minute = 0;

        Model() {
            for (int p = 0; p < 6; p++) {
                turns.add(new TreeMap<>());
            }
        }

        static ArrayList<ArrayList<Integer>> lists(int count) {
            ArrayList<ArrayList<Integer>> rows = new ArrayList<>();
            for (int i = 0; i < count; i++) {
                rows.add(new ArrayList<>());
            }
            return rows;
        }

        static boolean badVisitor(int v) {
            return v < 0 || v > 7;
        }

        static boolean badPavilion(int p) {
            return p < 0 || p > 5;
        }

        String call(int kind, int a, int b, int c) {
            switch (kind) {
                case 0: return setPavilion(a, b, c);
                case 1: return badPavilion(a) ? "Index" : "" + open(a, b == 1);
                case 2: return badVisitor(a) || badPavilion(b) ? "Index" : plan(a, b);
                case 3: return badVisitor(a) || badPavilion(b) ? "Index" : drop(a, b);
                case 4: return badVisitor(a) || badPavilion(b) ? "Index" : ask(a, b);
                case 5: return advance(a);
                case 6: return badVisitor(a) || badPavilion(b) ? "Index" : send(a, b);
                case 7: return reprint(a);
                case 8: return "" + minute;
                case 18: return badVisitor(a) || badPavilion(b) ? "Index" : "" + sent[a][b];
                default: return kind < 14 ? toldOfVisitor(kind, a) : toldOfPavilion(kind, a);
            }
        }

        String toldOfVisitor(int kind, int v) {
            if (badVisitor(v)) {
                return "Index";
            }
            switch (kind) {
                case 9: return "" + stateOf(v);
                case 10: return "" + whereIs(v);
                case 11: return "" + placeOf(v);
                case 12: return "" + turnOf(v);
                default: return "" + stamps(v);
            }
        }

        String toldOfPavilion(int kind, int p) {
            if (badPavilion(p)) {
                return "Index";
            }
            switch (kind) {
                case 14: return "" + queue(p).size();
                case 15: return "" + within.get(p).size();
                case 16: return "" + stock[p];
                default: return "" + demand[p];
            }
        }

        String setPavilion(int p, int newRoom, int newTime) {
            if (badPavilion(p)) {
                return "Index";
            }
            if (newRoom < 1 || newRoom > 8 || newTime < 1 || newTime > 60) {
                return "Argument";
            }
            room[p] = newRoom;
            time[p] = newTime;
            return "nothing";
        }

        int open(int p, boolean isOpen) {
            closed[p] = !isOpen;
            if (isOpen) {
                return 0;
            }
            int left = byTurn.get(p).size() + plain.get(p).size();
            for (int v : byTurn.get(p)) {
                usedTurn[v] = -1;
            }
            byTurn.get(p).clear();
            plain.get(p).clear();
            return left;
        }

        String plan(int v, int p) {
            if (plans.get(v).contains(p)) {
                return "State";
            }
            plans.get(v).add(p);
            return "" + plans.get(v).size();
        }

        String drop(int v, int p) {
            if (!plans.get(v).remove((Integer) p)) {
                return "State";
            }
            plain.get(p).remove((Integer) v);
            return "" + plans.get(v).size();
        }

        String ask(int v, int p) {
            if (closed[p] || turnOf(v) != -1) {
                return "State";
            }
            int m = minute + 1;
            while (m % 5 != 0 || turns.get(p).containsKey(m)) {
                m++;
            }
            turns.get(p).put(m, v);
            return "" + m;
        }

        String advance(int minutes) {
            if (minutes < 1 || minutes > 60) {
                return "Argument";
            }
            if (minute > 1200 - minutes) {
                return "State";
            }
            for (int i = 0; i < minutes; i++) {
                pass();
            }
            return "" + minute;
        }

        void pass() {
            minute++;
            for (int p = 0; p < 6; p++) {
                for (int v = 0; v < 8; v++) {
                    if (within.get(p).contains(v) && end[v] == minute) {
                        within.get(p).remove((Integer) v);
                        stamp[v][p] = true;
                    }
                }
            }
            for (int p = 0; p < 6; p++) {
                Integer v = turns.get(p).remove(minute);
                if (v != null && !closed[p] && stateOf(v) != 2) {
                    for (ArrayList<Integer> row : plain) {
                        row.remove(v);
                    }
                    byTurn.get(p).add(v);
                    usedTurn[v] = minute;
                }
            }
            for (int v = 0; v < 8; v++) {
                for (int i = 0; i < plans.get(v).size() && stateOf(v) == 0; i++) {
                    int p = plans.get(v).get(i);
                    if (!closed[p] && !stamp[v][p]) {
                        plain.get(p).add(v);
                    }
                }
            }
            for (int p = 0; p < 6; p++) {
                while (!closed[p] && within.get(p).size() < room[p] && queue(p).size() > 0) {
                    int v = queue(p).get(0);
                    (byTurn.get(p).isEmpty() ? plain : byTurn).get(p).remove(0);
                    usedTurn[v] = -1;
                    end[v] = minute + time[p];
                    within.get(p).add(v);
                }
            }
        }

        String send(int v, int p) {
            if (!stamp[v][p]) {
                return "State";
            }
            if (stock[p] > 0) {
                stock[p]--;
                sent[v][p]++;
                return "true";
            }
            demand[p]++;
            return "false";
        }

        String reprint(int threshold) {
            if (threshold < 1 || threshold > 1000) {
                return "Argument";
            }
            int printed = 0;
            for (int p = 0; p < 6; p++) {
                int cards = demand[p] >= threshold ? demand[p] : 0;
                printed += cards;
                stock[p] += cards;
                demand[p] -= cards;
            }
            return "" + printed;
        }

        ArrayList<Integer> queue(int p) {
            ArrayList<Integer> all = new ArrayList<>(byTurn.get(p));
            all.addAll(plain.get(p));
            return all;
        }

        int stateOf(int v) {
            for (int p = 0; p < 6; p++) {
                if (within.get(p).contains(v)) {
                    return 2;
                }
                if (queue(p).contains(v)) {
                    return 1;
                }
            }
            return 0;
        }

        int whereIs(int v) {
            for (int p = 0; p < 6; p++) {
                if (within.get(p).contains(v) || queue(p).contains(v)) {
                    return p;
                }
            }
            return -1;
        }

        int turnOf(int v) {
            for (TreeMap<Integer, Integer> table : turns) {
                for (int m : table.keySet()) {
                    if (table.get(m) == v) {
                        return m;
                    }
                }
            }
            return usedTurn[v];
        }

        int placeOf(int v) {
            int place = -1;
            for (int p = 0; p < 6; p++) {
                place = Math.max(place, queue(p).indexOf(v));
            }
            return place;
        }

        int stamps(int v) {
            int stamps = 0;
            for (int p = 0; p < 6; p++) {
                stamps += stamp[v][p] ? 1 << p : 0;
            }
            return stamps;
        }

        /** In the form of Check.picture. */
        String picture() {
            StringBuilder text = new StringBuilder("minute " + minute);
            for (int v = 0; v < 8; v++) {
                text.append("\n v").append(v).append(" state ").append(stateOf(v))
                        .append(" where ").append(whereIs(v)).append(" place ").append(placeOf(v))
                        .append(" turn ").append(turnOf(v)).append(" stamps ").append(stamps(v)).append(" sent");
                for (int p = 0; p < 6; p++) {
                    text.append(' ').append(sent[v][p]);
                }
            }
            for (int p = 0; p < 6; p++) {
                text.append("\n p").append(p).append(" queue ").append(queue(p).size())
                        .append(" inside ").append(within.get(p).size()).append(" stock ").append(stock[p])
                        .append(" demand ").append(demand[p]);
            }
            return text.toString();
        }
    }

    private static String real(Fair x, int kind, int a, int b, int c) {
        try {
            switch (kind) {
                case 0: x.setPavilion(a, b, c); return "nothing";
                case 1: return "" + x.open(a, b == 1);
                case 2: return "" + x.plan(a, b);
                case 3: return "" + x.drop(a, b);
                case 4: return "" + x.ask(a, b);
                case 5: return "" + x.advance(a);
                case 6: return "" + x.send(a, b);
                case 7: return "" + x.reprint(a);
                case 8: return "" + x.minute();
                case 9: return "" + x.stateOf(a);
                case 10: return "" + x.whereIs(a);
                case 11: return "" + x.placeOf(a);
                case 12: return "" + x.turnOf(a);
                case 13: return "" + x.stamps(a);
                case 14: return "" + x.queue(a);
                case 15: return "" + x.inside(a);
                case 16: return "" + x.stock(a);
                case 17: return "" + x.demand(a);
                default: return "" + x.sent(a, b);
            }
        } catch (RuntimeException e) {
            if (e.getClass() == IndexOutOfBoundsException.class) {
                return "Index";
            }
            if (e.getClass() == IllegalArgumentException.class) {
                return "Argument";
            }
            return e.getClass() == IllegalStateException.class ? "State" : e.toString();
        }
    }

    /** Mostly a number from 0 on, below the bound; at times one that is just outside. */
    private static int number(Mixer mixer, int bound) {
        return mixer.below(60) == 0 ? (mixer.below(2) == 0 ? -1 : bound) : mixer.below(bound);
    }

    private static boolean run(int seed) {
        Mixer mixer = new Mixer(seed);
        Fair x = new Fair();
        Model model = new Model();
        int length = 1 + mixer.below(MOST_CALLS);
        // Some runs keep to few pavilions, so that queues grow long, and some to short steps.
        int pavilions = 1 + mixer.below(6);
        int step = mixer.below(2) == 0 ? 3 : 61;
        // And in some the calls that only look are seldom, so that more happens.
        int looks = mixer.below(2) == 0 ? 3 : 20;
        for (int i = 0; i < length; i++) {
            int kind = mixer.below(looks) == 0 ? 8 + mixer.below(11) : CHANGES[mixer.below(CHANGES.length)];
            int[] numbers = numbers(mixer, kind, pavilions, step);
            String due = model.call(kind, numbers[0], numbers[1], numbers[2]);
            String got = real(x, kind, numbers[0], numbers[1], numbers[2]);
            Check.same("run " + seed + ", call " + i + ", kind " + kind + Arrays.toString(numbers), got, due);
            if (!got.equals(due)) {
                return false;
            }
        }
        String due = model.picture();
        String got = Check.picture(x);
        Check.same("run " + seed + " after " + length + " calls", got, due);
        return got.equals(due);
    }

    /** The numbers for a call of this kind: mostly such as are taken, and such as meet what others have made. */
    private static int[] numbers(Mixer mixer, int kind, int pavilions, int step) {
        switch (kind) {
            case 0: return new int[] {number(mixer, pavilions),
                mixer.below(20) == 0 ? mixer.below(10) : 1 + mixer.below(2),
                mixer.below(20) == 0 ? mixer.below(62) : 1 + mixer.below(9)};
            case 1: return new int[] {number(mixer, pavilions), mixer.below(3) == 0 ? 0 : 1, 0};
            case 5: return new int[] {number(mixer, step), 0, 0};
            case 7: return new int[] {number(mixer, mixer.below(9) == 0 ? 1001 : 4), 0, 0};
            case 14: case 15: case 16: case 17: return new int[] {number(mixer, pavilions), 0, 0};
            default: return new int[] {number(mixer, 8),
                pavilions == 6 || mixer.below(30) != 0 ? number(mixer, pavilions) : 6, 0};
        }
    }

    public static void main(String[] args) {
        for (int seed = 0; seed < RUNS; seed++) {
            if (!run(seed)) {
                break;
            }
        }
        Check.end();
    }
}
