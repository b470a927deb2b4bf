/**
 * Orders of members by score, each held as rows of steps: the lowest row steps from place to place,
 * each higher row jumps over many at once, and every step knows how far it goes.
 */
public final class JumpOrder {
    public static final int NONE = -1;

    private static final int ORDERS = 4;
    private static final int MEMBERS = 1000;
    private static final int MOST_TO_WALK = 1000;
    private static final int WALK_START = 7;
    private static final int WALK_FACTOR = 31;

    // About one place in four also stands in the next higher row: four rows are enough for 1000 places.
    private static final int ROWS = 4;
    private static final int SPREAD = 0x9E3779B1;

    // No member has these words: one comes ahead of all words, the other behind all of them.
    private static final int WORD_AHEAD_OF_ALL = 0;
    private static final int WORD_BEHIND_ALL = Integer.MAX_VALUE;

    private final Order[] orders;

    public JumpOrder() {
        orders = new Order[ORDERS];
        for (int i = 0; i < ORDERS; i++) {
            orders[i] = new Order();
        }
    }

    public int set(int order, int member, long score) {
        Order found = orderOf(order);
        if (found == null || !isMember(member)) {
            return NONE;
        }
        Place place = found.placeOf(member);
        if (place == null) {
            found.enter(member, score);
            return 1;
        }
        if (place.score == score) {
            return 0;
        }
        found.move(place, score);
        return 2;
    }

    public int remove(int order, int member) {
        Order found = orderOf(order);
        if (found == null || !isMember(member)) {
            return NONE;
        }
        Place place = found.placeOf(member);
        if (place == null) {
            return 0;
        }
        found.leave(place);
        return 1;
    }

    public int clear(int order) {
        Order found = orderOf(order);
        return found == null ? NONE : found.leaveAll();
    }

    public long score(int order, int member) {
        Order found = orderOf(order);
        if (found == null || !isMember(member)) {
            return NONE;
        }
        Place place = found.placeOf(member);
        return place == null ? 0 : place.score;
    }

    public int rank(int order, int member) {
        Order found = orderOf(order);
        if (found == null || !isMember(member)) {
            return NONE;
        }
        Place place = found.placeOf(member);
        return place == null ? NONE : found.countAheadOf(place.score, place.word);
    }

    public int at(int order, int rank) {
        Order found = orderOf(order);
        if (found == null) {
            return NONE;
        }
        Place place = found.placeOfRank(rank);
        return place == null ? NONE : place.member;
    }

    public int below(int order, long score, boolean too) {
        Order found = orderOf(order);
        if (found == null) {
            return NONE;
        }
        return found.countAheadOf(score, too ? WORD_BEHIND_ALL : WORD_AHEAD_OF_ALL);
    }

    public int size(int order) {
        Order found = orderOf(order);
        return found == null ? NONE : found.count;
    }

    public int walk(int order, int from, int n) {
        Order found = orderOf(order);
        if (found == null || from < 0 || n < 0 || n > MOST_TO_WALK) {
            return NONE;
        }
        int sum = WALK_START;
        Place place = found.placeOfRank(from);
        for (int i = 0; i < n && place != null; i++) {
            sum = WALK_FACTOR * sum + place.member;
            place = place.next[0];
        }
        return sum;
    }

    private Order orderOf(int order) {
        return order >= 0 && order < ORDERS ? orders[order] : null;
    }

    private static boolean isMember(int member) {
        return member >= 0 && member < MEMBERS;
    }

    /**
     * The members of one order. The head stands at position 0, the place of rank r at position r + 1,
     * and the end, which is no place, behind the last one.
     */
    private static final class Order {
        private final Place head;
        // The place of every member that was ever here: one that left is used again when it comes back.
        private final Place[] places;
        private int count;

        // How far the search that is under way has come.
        private Place here;
        private int position;

        private Order() {
            head = new Place(NONE, ROWS);
            places = new Place[MEMBERS];
            here = head;
            makeBare(head);
        }

        private Place placeOf(int member) {
            Place place = isMember(member) ? places[member] : null;
            return place != null && place.isIn ? place : null;
        }

        private Place placeOfRank(int rank) {
            if (rank < 0 || rank >= count) {
                return null;
            }
            goToHead();
            for (int row = ROWS - 1; row >= 0; row--) {
                goAheadOf(row, rank + 1);
            }
            return here.next[0];
        }

        private int countAheadOf(long score, int word) {
            goToHead();
            for (int row = ROWS - 1; row >= 0; row--) {
                Place next = here.next[row];
                while (next != null && next.isAheadOf(score, word)) {
                    position += here.far[row];
                    here = next;
                    next = next.next[row];
                }
            }
            return position;
        }

        private void enter(int member, long score) {
            if (!isMember(member)) {
                return;
            }
            Place place = places[member];
            if (place == null) {
                place = new Place(member, heightOf(member));
                places[member] = place;
            }
            place.score = score;
            place.isIn = true;
            putIn(place);
        }

        private void move(Place place, long score) {
            takeOut(place);
            place.score = score;
            putIn(place);
        }

        private void leave(Place place) {
            takeOut(place);
            place.isIn = false;
        }

        private int leaveAll() {
            int left = count;
            for (Place place = head.next[0]; place != null; place = place.next[0]) {
                place.isIn = false;
            }
            makeBare(head);
            count = 0;
            return left;
        }

        private void putIn(Place place) {
            int target = countAheadOf(place.score, place.word) + 1;
            goToHead();
            for (int row = ROWS - 1; row >= 0; row--) {
                goAheadOf(row, target);
                if (row < place.height) {
                    place.next[row] = here.next[row];
                    place.far[row] = position + here.far[row] + 1 - target;
                    here.next[row] = place;
                    here.far[row] = target - position;
                } else {
                    here.far[row]++;
                }
            }
            count++;
        }

        private void takeOut(Place place) {
            int target = countAheadOf(place.score, place.word) + 1;
            goToHead();
            for (int row = ROWS - 1; row >= 0; row--) {
                goAheadOf(row, target);
                if (row < place.height) {
                    here.next[row] = place.next[row];
                    here.far[row] += place.far[row] - 1;
                } else {
                    here.far[row]--;
                }
            }
            count--;
        }

        private void goToHead() {
            here = head;
            position = 0;
        }

        /** Goes along a row to the last place whose position is less than the target. */
        private void goAheadOf(int row, int target) {
            if (row < 0 || row >= ROWS) {
                return;
            }
            Place next = here.next[row];
            while (next != null && position + here.far[row] < target) {
                position += here.far[row];
                here = next;
                next = next.next[row];
            }
        }

        /** Without places, every row is one step from the head to the end. */
        private static void makeBare(Place head) {
            for (int row = 0; row < ROWS; row++) {
                head.next[row] = null;
                head.far[row] = 1;
            }
        }

        /** A height that hangs on the member alone, so that the same calls always make the same rows. */
        private static int heightOf(int member) {
            int bits = (member * SPREAD) >>> 16;
            int height = 1;
            while (height < ROWS && (bits & 3) == 0) {
                bits >>>= 2;
                height++;
            }
            return height;
        }
    }

    /** A member in an order, with its step in each row that it stands in, the rows below its height. */
    private static final class Place {
        private final int member;
        private final int word;
        private final int height;
        private final Place[] next;
        private final int[] far;
        private long score;
        private boolean isIn;

        private Place(int member, int height) {
            this.member = member;
            this.word = wordOf(member);
            this.height = height;
            this.next = new Place[ROWS];
            this.far = new int[ROWS];
        }

        private boolean isAheadOf(long otherScore, int otherWord) {
            return score < otherScore || (score == otherScore && word < otherWord);
        }

        /** A number that orders members as their words do: the digits moved to the left, then how many. */
        private static int wordOf(int member) {
            if (member < 10) {
                return member * 100 * 4 + 1;
            }
            if (member < 100) {
                return member * 10 * 4 + 2;
            }
            return member * 4 + 3;
        }
    }
}
