/** Each promise by itself: ordinary inputs, the edges that the document names, and wrong inputs. */
public final class PromisesTest {
    private static final int NONE = JumpOrder.NONE;
    private static final int[] NO_ORDERS = {-1, 4, 5, 1000, Integer.MIN_VALUE, Integer.MAX_VALUE};
    private static final int[] NO_MEMBERS = {-1, 1000, 1001, Integer.MIN_VALUE, Integer.MAX_VALUE};

    private static final Checks checks = new Checks();

    public static void main(String[] args) {
        newObject();
        set();
        setMoves();
        remove();
        clear();
        score();
        rank();
        words();
        at();
        below();
        belowAtTheEnds();
        size();
        walk();
        walkWraps();
        ordersStandApart();
        refusals();
        refusalsChangeNothing();
        checks.end();
    }

    private static void newObject() {
        JumpOrder x = new JumpOrder();
        for (int order = 0; order < 4; order++) {
            checks.due("1: size", x.size(order), 0);
            checks.due("1: at(0)", x.at(order, 0), NONE);
            checks.due("1: below", x.below(order, Long.MAX_VALUE, true), 0);
            checks.due("1: walk", x.walk(order, 0, 1000), 7);
            checks.due("1: clear", x.clear(order), 0);
            for (int member = 0; member < 1000; member += 37) {
                checks.due("1: rank", x.rank(order, member), NONE);
                checks.due("1: score", x.score(order, member), 0L);
            }
        }
    }

    private static void set() {
        JumpOrder x = new JumpOrder();
        checks.due("2: new", x.set(0, 5, 7L), 1);
        checks.due("2: just this", x.set(0, 5, 7L), 0);
        checks.due("2: another", x.set(0, 5, 8L), 2);
        checks.due("2: just this now", x.set(0, 5, 8L), 0);
        checks.due("2: back again", x.set(0, 5, 7L), 2);
        checks.due("2: new with 0", x.set(0, 6, 0L), 1);
        checks.due("2: 0 again", x.set(0, 6, 0L), 0);
        checks.due("2: first member", x.set(3, 0, Long.MIN_VALUE), 1);
        checks.due("2: last member", x.set(3, 999, Long.MAX_VALUE), 1);
        // Scores that are alike in their lower or upper 32 bits are others all the same.
        checks.due("2: other upper half", x.set(0, 5, 7L + (1L << 32)), 2);
        checks.due("2: other lower half", x.set(0, 5, 8L + (1L << 32)), 2);
        x.remove(0, 5);
        checks.due("2: new after remove", x.set(0, 5, 8L + (1L << 32)), 1);
        x.clear(0);
        checks.due("2: new after clear", x.set(0, 5, 8L + (1L << 32)), 1);
    }

    private static void setMoves() {
        JumpOrder x = of(10, 20, 30);
        x.set(0, 1, 15L);
        dueMembers("2: stays", x, 1, 2, 3);
        x.set(0, 1, 25L);
        dueMembers("2: one on", x, 2, 1, 3);
        x.set(0, 1, 35L);
        dueMembers("2: to the end", x, 2, 3, 1);
        x.set(0, 1, 20L);
        dueMembers("2: among equals by word", x, 1, 2, 3);
        x.set(0, 3, Long.MIN_VALUE);
        dueMembers("2: to the head", x, 3, 1, 2);
    }

    private static void remove() {
        JumpOrder x = of(10, 20, 30, 40);
        checks.due("3: never there", x.remove(0, 77), 0);
        checks.due("3: from the middle", x.remove(0, 2), 1);
        checks.due("3: again", x.remove(0, 2), 0);
        dueMembers("3: without 2", x, 1, 3, 4);
        checks.due("3: score of one that left", x.score(0, 2), 0L);
        checks.due("3: rank of one that left", x.rank(0, 2), NONE);
        checks.due("3: the first", x.remove(0, 1), 1);
        checks.due("3: the last", x.remove(0, 4), 1);
        dueMembers("3: only 3", x, 3);
        checks.due("3: the only one", x.remove(0, 3), 1);
        dueMembers("3: empty", x);
        x.set(0, 0, 0L);
        checks.due("3: score 0 is there too", x.remove(0, 0), 1);
    }

    private static void clear() {
        JumpOrder x = of(10, 20, 30);
        x.set(1, 2, 5L);
        checks.due("4: three", x.clear(0), 3);
        checks.due("4: again", x.clear(0), 0);
        dueMembers("4: empty", x);
        checks.due("4: score", x.score(0, 1), 0L);
        checks.due("4: rank", x.rank(0, 1), NONE);
        checks.due("4: remove", x.remove(0, 1), 0);
        checks.due("4: below", x.below(0, Long.MAX_VALUE, true), 0);
        checks.due("4: the other order stays", x.size(1), 1);
        checks.due("4: come back", x.set(0, 3, 1L), 1);
        checks.due("4: come back", x.set(0, 1, 2L), 1);
        dueMembers("4: used again", x, 3, 1);
        checks.due("4: two", x.clear(0), 2);
    }

    private static void score() {
        JumpOrder x = new JumpOrder();
        long[] scores = {0L, 1L, -1L, 1L << 40, -(1L << 40), Long.MIN_VALUE, Long.MAX_VALUE};
        for (long score : scores) {
            x.set(2, 500, score);
            checks.due("5: score", x.score(2, 500), score);
        }
        checks.due("5: not there", x.score(2, 501), 0L);
        checks.due("5: not in this order", x.score(1, 500), 0L);
    }

    private static void rank() {
        JumpOrder x = of(30, 10, 20, 10);
        checks.due("6: rank of 2", x.rank(0, 2), 0);
        checks.due("6: rank of 4", x.rank(0, 4), 1);
        checks.due("6: rank of 3", x.rank(0, 3), 2);
        checks.due("6: rank of 1", x.rank(0, 1), 3);
        checks.due("6: not there", x.rank(0, 5), NONE);
        checks.due("6: not in this order", x.rank(1, 1), NONE);
        x.remove(0, 4);
        checks.due("6: rank after one ahead left", x.rank(0, 1), 2);
        checks.due("6: rank before it", x.rank(0, 2), 0);
    }

    private static void words() {
        JumpOrder x = new JumpOrder();
        int[] members = {9, 20, 100, 1, 10, 2, 99, 0, 999, 101};
        for (int member : members) {
            x.set(1, member, -4L);
        }
        int[] sorted = {0, 1, 10, 100, 101, 2, 20, 9, 99, 999};
        for (int rank = 0; rank < sorted.length; rank++) {
            checks.due("6: word of rank " + rank, x.at(1, rank), sorted[rank]);
            checks.due("6: rank of word " + sorted[rank], x.rank(1, sorted[rank]), rank);
        }
    }

    private static void at() {
        JumpOrder x = of(5, 4, 3);
        checks.due("7: first", x.at(0, 0), 3);
        checks.due("7: middle", x.at(0, 1), 2);
        checks.due("7: last", x.at(0, 2), 1);
        checks.due("7: behind the last", x.at(0, 3), NONE);
        checks.due("7: ahead of the first", x.at(0, -1), NONE);
        checks.due("7: far behind", x.at(0, Integer.MAX_VALUE), NONE);
        checks.due("7: far ahead", x.at(0, Integer.MIN_VALUE), NONE);
        checks.due("7: in an empty order", x.at(1, 0), NONE);
    }

    private static void below() {
        JumpOrder x = of(10, 20, 20, 20, 30);
        checks.due("8: below all", x.below(0, 9L, true), 0);
        checks.due("8: below the first", x.below(0, 10L, false), 0);
        checks.due("8: the first too", x.below(0, 10L, true), 1);
        checks.due("8: below equal ones", x.below(0, 20L, false), 1);
        checks.due("8: equal ones too", x.below(0, 20L, true), 4);
        checks.due("8: between", x.below(0, 25L, false), 4);
        checks.due("8: between, too", x.below(0, 25L, true), 4);
        checks.due("8: below the last", x.below(0, 30L, false), 4);
        checks.due("8: the last too", x.below(0, 30L, true), 5);
        checks.due("8: behind all", x.below(0, 31L, false), 5);
        checks.due("8: an empty order", x.below(1, 31L, true), 0);
    }

    private static void belowAtTheEnds() {
        JumpOrder x = of(Long.MIN_VALUE, Long.MAX_VALUE, 0, Long.MAX_VALUE);
        checks.due("8: below the least", x.below(0, Long.MIN_VALUE, false), 0);
        checks.due("8: the least too", x.below(0, Long.MIN_VALUE, true), 1);
        checks.due("8: below 0", x.below(0, 0L, false), 1);
        checks.due("8: 0 too", x.below(0, 0L, true), 2);
        checks.due("8: below the greatest", x.below(0, Long.MAX_VALUE, false), 2);
        checks.due("8: the greatest too", x.below(0, Long.MAX_VALUE, true), 4);
        // The first and the last word must not slip past the bounds of equal scores.
        x.set(3, 0, 6L);
        x.set(3, 999, 6L);
        checks.due("8: below both words", x.below(3, 6L, false), 0);
        checks.due("8: both words too", x.below(3, 6L, true), 2);
    }

    private static void size() {
        JumpOrder x = new JumpOrder();
        for (int member = 0; member < 100; member++) {
            x.set(3, member, member % 7);
            checks.due("9: one more", x.size(3), member + 1);
        }
        x.set(3, 50, 99L);
        checks.due("9: another score", x.size(3), 100);
        x.set(3, 50, 99L);
        checks.due("9: the same score", x.size(3), 100);
        x.remove(3, 50);
        checks.due("9: one left", x.size(3), 99);
        x.remove(3, 50);
        checks.due("9: it wasn't there", x.size(3), 99);
        x.clear(3);
        checks.due("9: all left", x.size(3), 0);
    }

    private static void walk() {
        JumpOrder x = of(30, 20, 10);
        int three = 7 * 31 + 3;
        checks.due("10: none", x.walk(0, 0, 0), 7);
        checks.due("10: one", x.walk(0, 0, 1), three);
        checks.due("10: two", x.walk(0, 0, 2), three * 31 + 2);
        checks.due("10: all", x.walk(0, 0, 3), (three * 31 + 2) * 31 + 1);
        checks.due("10: as many as there are", x.walk(0, 0, 1000), (three * 31 + 2) * 31 + 1);
        checks.due("10: from 1", x.walk(0, 1, 1), 7 * 31 + 2);
        checks.due("10: from 1 on", x.walk(0, 1, 9), (7 * 31 + 2) * 31 + 1);
        checks.due("10: from the last", x.walk(0, 2, 9), 7 * 31 + 1);
        checks.due("10: from behind the last", x.walk(0, 3, 9), 7);
        checks.due("10: from far behind", x.walk(0, Integer.MAX_VALUE, 1000), 7);
        checks.due("10: n below 0", x.walk(0, 0, -1), NONE);
        checks.due("10: n above 1000", x.walk(0, 0, 1001), NONE);
        checks.due("10: least n", x.walk(0, 0, Integer.MIN_VALUE), NONE);
        checks.due("10: greatest n", x.walk(0, 0, Integer.MAX_VALUE), NONE);
        checks.due("10: from below 0", x.walk(0, -1, 1), NONE);
        checks.due("10: from below 0, none", x.walk(0, -1, 0), NONE);
        checks.due("10: least from", x.walk(0, Integer.MIN_VALUE, 1000), NONE);
        checks.due("10: n above 1000, from behind", x.walk(0, 9, 1001), NONE);
        checks.due("10: empty order, from below 0", x.walk(1, -1, 1), NONE);
        x.set(1, 0, 4L);
        checks.due("10: member 0 counts", x.walk(1, 0, 5), 7 * 31);
    }

    private static void walkWraps() {
        JumpOrder x = new JumpOrder();
        int sum = 7;
        for (int member = 0; member < 500; member++) {
            x.set(0, member, member);
            sum = sum * 31 + member;
        }
        checks.due("10: all 500", x.walk(0, 0, 1000), sum);
        int fromMiddle = 7;
        for (int member = 200; member < 400; member++) {
            fromMiddle = fromMiddle * 31 + member;
        }
        checks.due("10: 200 from 200 on", x.walk(0, 200, 200), fromMiddle);
    }

    private static void ordersStandApart() {
        JumpOrder x = new JumpOrder();
        for (int order = 0; order < 4; order++) {
            checks.due("new in each order", x.set(order, 12, order * 10L), 1);
            x.set(order, 100 + order, 15L);
        }
        for (int order = 0; order < 4; order++) {
            checks.due("score in each order", x.score(order, 12), order * 10L);
            checks.due("rank in each order", x.rank(order, 12), order < 2 ? 0 : 1);
        }
        x.remove(2, 12);
        checks.due("left 2 only", x.size(0) * 100 + x.size(1) * 10 + x.size(3), 222);
        checks.due("left 2", x.size(2), 1);
    }

    private static void refusals() {
        JumpOrder x = of(10, 20, 30);
        for (int order : NO_ORDERS) {
            checks.due("2: no order", x.set(order, 1, 10L), NONE);
            checks.due("3: no order", x.remove(order, 1), NONE);
            checks.due("4: no order", x.clear(order), NONE);
            checks.due("5: no order", x.score(order, 1), (long) NONE);
            checks.due("6: no order", x.rank(order, 1), NONE);
            checks.due("7: no order", x.at(order, 0), NONE);
            checks.due("8: no order", x.below(order, 99L, true), NONE);
            checks.due("8: no order", x.below(order, 99L, false), NONE);
            checks.due("9: no order", x.size(order), NONE);
            checks.due("10: no order", x.walk(order, 0, 5), NONE);
            checks.due("10: no order, none", x.walk(order, 0, 0), NONE);
        }
        for (int member : NO_MEMBERS) {
            checks.due("2: no member", x.set(0, member, 10L), NONE);
            checks.due("3: no member", x.remove(0, member), NONE);
            checks.due("5: no member", x.score(0, member), (long) NONE);
            checks.due("6: no member", x.rank(0, member), NONE);
        }
        checks.due("2: neither", x.set(-1, -1, 10L), NONE);
        checks.due("5: neither", x.score(4, 1000), (long) NONE);
    }

    private static void refusalsChangeNothing() {
        JumpOrder x = of(10, 20, 30);
        for (int order : NO_ORDERS) {
            x.set(order, 2, 99L);
            x.remove(order, 2);
            x.clear(order);
        }
        for (int member : NO_MEMBERS) {
            x.set(0, member, 5L);
            x.remove(0, member);
        }
        dueMembers("unchanged", x, 1, 2, 3);
        checks.due("unchanged score", x.score(0, 2), 20L);
        for (int order = 1; order < 4; order++) {
            checks.due("still empty", x.size(order), 0);
        }
    }

    /** A new object with members 1, 2, .. of these scores in order 0. */
    private static JumpOrder of(long... scores) {
        JumpOrder x = new JumpOrder();
        for (int i = 0; i < scores.length; i++) {
            checks.due("set", x.set(0, i + 1, scores[i]), 1);
        }
        return x;
    }

    private static void dueMembers(String what, JumpOrder x, int... members) {
        checks.due(what + ": size", x.size(0), members.length);
        int sum = 7;
        for (int rank = 0; rank < members.length; rank++) {
            checks.due(what + ": at " + rank, x.at(0, rank), members[rank]);
            checks.due(what + ": rank of " + members[rank], x.rank(0, members[rank]), rank);
            sum = sum * 31 + members[rank];
        }
        checks.due(what + ": behind", x.at(0, members.length), NONE);
        checks.due(what + ": walk", x.walk(0, 0, 1000), sum);
    }
}
