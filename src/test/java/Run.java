/** A new object used within the document's 512 calls, whose answers are compared with those that are due. */
final class Run {
    static final int MOST_CALLS = 512;

    private final Checks checks;
    private final String sentence;
    private final JumpOrder object = new JumpOrder();
    private int calls = 0;

    Run(Checks checks, String sentence) {
        this.checks = checks;
        this.sentence = sentence;
    }

    Answer set(int order, int member, long score) {
        return answer("set(" + order + ", " + member + ", " + score + ")", object.set(order, member, score));
    }

    Answer remove(int order, int member) {
        return answer("remove(" + order + ", " + member + ")", object.remove(order, member));
    }

    Answer clear(int order) {
        return answer("clear(" + order + ")", object.clear(order));
    }

    Answer score(int order, int member) {
        return answer("score(" + order + ", " + member + ")", object.score(order, member));
    }

    Answer rank(int order, int member) {
        return answer("rank(" + order + ", " + member + ")", object.rank(order, member));
    }

    Answer at(int order, int rank) {
        return answer("at(" + order + ", " + rank + ")", object.at(order, rank));
    }

    Answer below(int order, long score, boolean too) {
        return answer("below(" + order + ", " + score + ", " + too + ")", object.below(order, score, too));
    }

    Answer size(int order) {
        return answer("size(" + order + ")", object.size(order));
    }

    Answer walk(int order, int from, int n) {
        return answer("walk(" + order + ", " + from + ", " + n + ")", object.walk(order, from, n));
    }

    /** All that can be read of an order holds just these members, in this order. */
    void holds(int order, int... members) {
        size(order).is(members.length);
        int sum = 7;
        for (int rank = 0; rank < members.length; rank++) {
            at(order, rank).is(members[rank]);
            rank(order, members[rank]).is(rank);
            sum = 31 * sum + members[rank];
        }
        at(order, members.length).is(JumpOrder.NONE);
        walk(order, 0, 1000).is(sum);
    }

    int callsLeft() {
        return MOST_CALLS - calls;
    }

    // A test that asks for more would test what the document leaves free.
    private Answer answer(String call, long got) {
        calls++;
        if (calls > MOST_CALLS) {
            checks.due(sentence + ": the number of calls", calls, MOST_CALLS);
        }
        return new Answer(checks, sentence + ": call " + calls + ", " + call, got);
    }

    record Answer(Checks checks, String call, long got) {
        void is(long due) {
            checks.due(call, got, due);
        }
    }
}
