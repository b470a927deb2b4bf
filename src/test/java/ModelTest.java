import java.util.ArrayList;
import java.util.Comparator;
import java.util.HashMap;
import java.util.List;
import java.util.Map;

/** Mixed runs of 512 calls, each answer compared with that of a plain model that sorts anew every time. */
public final class ModelTest {
    private static final int RUNS = 600;
    // The look at the end takes the last 8 of the 512 calls that an object answers.
    private static final int CALLS = 504;
    private static final int LATER_CALLS = 20000;
    private static final long[] EDGE_SCORES = {
        Long.MIN_VALUE, Long.MIN_VALUE + 1, Integer.MIN_VALUE, -1L, 0L, 1L, Integer.MAX_VALUE, 1L << 32,
        Long.MAX_VALUE - 1, Long.MAX_VALUE};
    private static final int[] EDGE_NUMBERS = {
        Integer.MIN_VALUE, -1000, -2, -1, 0, 3, 4, 999, 1000, 1001, Integer.MAX_VALUE};

    private final Checks checks;
    private final JumpOrder real = new JumpOrder();
    private final Model model = new Model();
    private final int orders;
    private final int members;
    // A run begins with this many sets, so that some orders are long while there are calls left.
    private final int firstSets;
    private final int setsInTen;
    private long seed;

    private ModelTest(Checks checks, int run) {
        this.checks = checks;
        this.seed = run * 7919L + 1;
        this.orders = 1 + run % 4;
        this.members = new int[] {5, 12, 40, 130, 400, 1000}[run % 6];
        this.firstSets = new int[] {0, 0, 100, 250, 400}[run % 5];
        this.setsInTen = 2 + run % 7;
    }

    public static void main(String[] args) {
        Checks checks = new Checks();
        for (int run = 0; run < RUNS && checks.allRight(); run++) {
            ModelTest test = new ModelTest(checks, run);
            for (int call = 0; call < CALLS && checks.allRight(); call++) {
                test.callOnce("run " + run + ", call " + call + ": ", call < test.firstSets);
            }
            test.compareAll("run " + run + ", end: ");
        }
        laterCallsEnd(checks);
        checks.end();
    }

    /**
     * What an object answers after its 512th call is free, so no answer is looked at here; but even then a call must
     * neither throw nor fail to end, and only then can an order have all 1000 members.
     */
    private static void laterCallsEnd(Checks checks) {
        ModelTest test = new ModelTest(checks, 5 + 6 * 4);
        for (int call = 0; call < LATER_CALLS; call++) {
            test.callWithFreeAnswer();
        }
        for (int call = 0; call < 4000; call++) {
            test.real.set(call % 4, call / 4, test.drawnScore());
        }
        for (int call = 0; call < LATER_CALLS; call++) {
            test.callWithFreeAnswer();
        }
    }

    private void callWithFreeAnswer() {
        int order = drawnOrder();
        switch (draw(9)) {
            case 0 -> real.set(order, drawnMember(), drawnScore());
            case 1 -> real.remove(order, drawnMember());
            // Seldom, so that orders stay long.
            case 2 -> real.clear(draw(50) == 0 ? order : 4);
            case 3 -> real.score(order, drawnMember());
            case 4 -> real.rank(order, drawnMember());
            case 5 -> real.at(order, drawnNumber());
            case 6 -> real.below(order, drawnScore(), draw(2) == 0);
            case 7 -> real.size(order);
            default -> real.walk(order, drawnNumber(), drawnNumber());
        }
    }

    private void callOnce(String where, boolean set) {
        int order = drawnOrder();
        int member = drawnMember();
        long score = drawnScore();
        String args = "(" + order + ", " + member + ", " + score + ")";
        if (set || draw(10) < setsInTen) {
            checks.due(where + "set" + args, real.set(order, member, score), model.set(order, member, score));
            return;
        }
        switch (draw(30)) {
            case 0 -> checks.due(where + "clear" + args, real.clear(order), model.clear(order));
            case 1, 2, 3, 4, 5, 6, 7 ->
                checks.due(where + "remove" + args, real.remove(order, member), model.remove(order, member));
            case 8, 9 -> checks.due(where + "size" + args, real.size(order), model.size(order));
            case 10, 11, 12 ->
                checks.due(where + "score" + args, real.score(order, member), model.score(order, member));
            case 13, 14, 15, 16, 17 ->
                checks.due(where + "rank" + args, real.rank(order, member), model.rank(order, member));
            case 18, 19, 20, 21 -> {
                int rank = drawnNumber();
                checks.due(where + "at " + order + " " + rank, real.at(order, rank), model.at(order, rank));
            }
            case 22, 23, 24, 25 -> {
                boolean too = draw(2) == 0;
                checks.due(where + "below" + args + too, real.below(order, score, too), model.below(order, score, too));
            }
            default -> {
                int from = drawnNumber();
                int n = drawnNumber();
                checks.due(where + "walk " + order + " " + from + " " + n,
                        real.walk(order, from, n), model.walk(order, from, n));
            }
        }
    }

    private void compareAll(String where) {
        for (int order = 0; order < 4; order++) {
            checks.due(where + "size", real.size(order), model.size(order));
            checks.due(where + "walk", real.walk(order, 0, 1000), model.walk(order, 0, 1000));
        }
    }

    private int drawnOrder() {
        return draw(40) == 0 ? EDGE_NUMBERS[draw(EDGE_NUMBERS.length)] : draw(orders);
    }

    private int drawnMember() {
        return draw(40) == 0 ? EDGE_NUMBERS[draw(EDGE_NUMBERS.length)] : draw(members);
    }

    private int drawnNumber() {
        return draw(10) == 0 ? EDGE_NUMBERS[draw(EDGE_NUMBERS.length)] : draw(members + 2);
    }

    private long drawnScore() {
        return switch (draw(4)) {
            case 0 -> EDGE_SCORES[draw(EDGE_SCORES.length)];
            case 1 -> nextSeed();
            default -> draw(9) - 4;
        };
    }

    private int draw(int bound) {
        return (int) ((nextSeed() >>> 33) % bound);
    }

    // A sequence of the test's own: the same numbers in every run of the test.
    private long nextSeed() {
        seed = seed * 6364136223846793005L + 1442695040888963407L;
        return seed;
    }

    /** The document's words in their plainest form. */
    private static final class Model {
        private final List<Map<Integer, Long>> scores = new ArrayList<>();

        private Model() {
            for (int order = 0; order < 4; order++) {
                scores.add(new HashMap<>());
            }
        }

        private static boolean noOrder(int order) {
            return order < 0 || order > 3;
        }

        private static boolean none(int order, int member) {
            return noOrder(order) || member < 0 || member > 999;
        }

        private List<Integer> sorted(int order) {
            Map<Integer, Long> of = scores.get(order);
            List<Integer> members = new ArrayList<>(of.keySet());
            members.sort(Comparator.<Integer, Long>comparing(of::get).thenComparing(m -> Integer.toString(m)));
            return members;
        }

        private int set(int order, int member, long score) {
            if (none(order, member)) {
                return -1;
            }
            Long old = scores.get(order).put(member, score);
            return old == null ? 1 : old == score ? 0 : 2;
        }

        private int remove(int order, int member) {
            if (none(order, member)) {
                return -1;
            }
            return scores.get(order).remove(member) == null ? 0 : 1;
        }

        private int clear(int order) {
            int left = size(order);
            if (left > 0) {
                scores.get(order).clear();
            }
            return left;
        }

        private long score(int order, int member) {
            return none(order, member) ? -1L : scores.get(order).getOrDefault(member, 0L);
        }

        private int rank(int order, int member) {
            return none(order, member) ? -1 : sorted(order).indexOf(member);
        }

        private int at(int order, int rank) {
            return noOrder(order) || rank < 0 || rank >= size(order) ? -1 : sorted(order).get(rank);
        }

        private int below(int order, long score, boolean too) {
            if (noOrder(order)) {
                return -1;
            }
            int count = 0;
            for (long one : scores.get(order).values()) {
                count += one < score || (too && one == score) ? 1 : 0;
            }
            return count;
        }

        private int size(int order) {
            return noOrder(order) ? -1 : scores.get(order).size();
        }

        private int walk(int order, int from, int n) {
            if (noOrder(order) || from < 0 || n < 0 || n > 1000) {
                return -1;
            }
            int sum = 7;
            List<Integer> members = sorted(order);
            for (long rank = from; rank < (long) from + n && rank < members.size(); rank++) {
                sum = sum * 31 + members.get((int) rank);
            }
            return sum;
        }
    }
}
