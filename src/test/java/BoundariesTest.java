import java.util.Arrays;
import java.util.Comparator;
import java.util.function.Consumer;
import java.util.stream.IntStream;

/** Each sentence of the document that names a boundary case, by itself, on objects of at most 512 calls. */
public final class BoundariesTest {
    private static final int NONE = JumpOrder.NONE;
    private static final int MIN = Integer.MIN_VALUE;
    private static final int MAX = Integer.MAX_VALUE;

    // Beside the next ones on both sides: numbers that only their lower bits would make an order or a member.
    private static final int[] NO_ORDERS = {
        -1, 4, -2, -3, -4, 5, 7, 8, 999, 256, 1 << 16, 1 << 30, MIN, MIN + 1, MAX - 1, MAX};
    private static final int[] NO_MEMBERS = {
        -1, 1000, -2, -999, -1000, 1001, 1023, 1024, 1 << 16, 1 << 30, MIN, MIN + 1, MAX - 1, MAX};
    private static final int[] NO_RANKS_OF_THREE = {-1, 3, -2, -3, 4, 999, 1000, 1 << 16, MIN, MIN + 1, MAX - 1, MAX};
    private static final long[] RISING_SCORES = {
        Long.MIN_VALUE, Long.MIN_VALUE + 1, -(1L << 32) - 1, -(1L << 32), MIN - 1L, MIN, -2, -1, 0, 1, 2,
        MAX, MAX + 1L, (1L << 32) - 1, 1L << 32, (1L << 32) + 1, 1L << 53, (1L << 53) + 1,
        Long.MAX_VALUE - 1, Long.MAX_VALUE};

    private static final Checks checks = new Checks();

    public static void main(String[] args) {
        lastCallAnswersAsTheFirst();
        everyOrderIsOne();
        ordersAreAtFirstEmpty();
        everyMemberIsOne();
        tenComesAheadOfNine();
        lesserScoreFirst();
        scoresHave64Bits();
        lesserWordOfEqualScores();
        lesserWordOfManyEqualScores();
        shorterWordFirst();
        ranksAreCountedFrom0();
        memoryIsTheObjectsOwn();
        noOrderIsRefused();
        noMemberIsRefused();
        readingChangesNothing();
        newObjectIsEmpty();
        setOfANewMember();
        setOfAnotherScore();
        setOfJustThisScore();
        setHoldsFromNowOn();
        removeOfOneThatIsThere();
        removeOfOneThatIsNot();
        removeDownToNone();
        clearAnswersHowMany();
        clearOfAnEmptyOrder();
        scoreOfOneThatIsThere();
        scoreOfOneThatIsNot();
        rankOfOneThatIsNot();
        atARankThatIsNone();
        belowAScore();
        belowAScoreTooJustIt();
        belowAtTheEndsOfTheScores();
        sizeOfAnOrder();
        walkAsManyAsThereAre();
        walkFromSevenOn();
        walkAtMostN();
        walkOfAnotherN();
        walkFromBelow0();
        walkAsAnInt();
        checks.end();
    }

    // ---- What it is

    private static void lastCallAnswersAsTheFirst() {
        String sentence = "An object is used for at most 512 calls";
        int[] sorted = membersInOrder(511);
        int last = sorted[510];
        lastCall(sentence, x -> x.set(0, notFilled(), 0).is(1));
        lastCall(sentence, x -> x.set(0, last, 77).is(2));
        lastCall(sentence, x -> x.set(0, last, 2).is(0));
        lastCall(sentence, x -> x.remove(0, sorted[0]).is(1));
        lastCall(sentence, x -> x.remove(0, notFilled()).is(0));
        lastCall(sentence, x -> x.clear(0).is(511));
        lastCall(sentence, x -> x.score(0, last).is(2));
        lastCall(sentence, x -> x.score(0, notFilled()).is(0));
        lastCall(sentence, x -> x.rank(0, last).is(510));
        lastCall(sentence, x -> x.rank(0, notFilled()).is(NONE));
        lastCall(sentence, x -> x.at(0, 510).is(last));
        lastCall(sentence, x -> x.at(0, 511).is(NONE));
        lastCall(sentence, x -> x.below(0, 2, true).is(511));
        lastCall(sentence, x -> x.below(0, -2, false).is(0));
        lastCall(sentence, x -> x.size(0).is(511));
        lastCall(sentence, x -> x.walk(0, 0, 1000).is(sumOf(sorted)));
        lastCall(sentence, x -> x.walk(0, 510, 1000).is(7 * 31 + last));
        lastCall(sentence, x -> x.set(4, last, 77).is(NONE));
        sameMemberForAllCalls(sentence);
        newMembersForAllCalls(sentence);
    }

    private static void lastCall(String sentence, Consumer<Run> call) {
        Run x = new Run(checks, sentence);
        fill(x, 511);
        call.accept(x);
        checks.due(sentence + ": calls left", x.callsLeft(), 0);
    }

    private static void sameMemberForAllCalls(String sentence) {
        Run comesAndGoes = new Run(checks, sentence);
        Run moves = new Run(checks, sentence);
        moves.set(2, 7, 0).is(1);
        moves.set(2, 8, 0).is(1);
        for (int i = 0; i < 255; i++) {
            comesAndGoes.set(1, 42, i).is(1);
            comesAndGoes.remove(1, 42).is(1);
            moves.set(2, 7, 1).is(2);
            moves.set(2, 7, 0).is(2);
        }
        comesAndGoes.size(1).is(0);
        comesAndGoes.at(1, 0).is(NONE);
    }

    private static void newMembersForAllCalls(String sentence) {
        Run x = new Run(checks, sentence);
        for (int i = 0; i < 512; i++) {
            x.set(i % 4, 999 - i, Long.MIN_VALUE).is(1);
        }
    }

    // ---- Terms

    private static void everyOrderIsOne() {
        Run x = new Run(checks, "ORDERS 0 .. 3");
        for (int order = 0; order < 4; order++) {
            x.set(order, 10 + order, 5 - order).is(1);
            x.set(order, 20, 3).is(1);
        }
        x.holds(0, 20, 10);
        x.holds(1, 20, 11);
        x.holds(2, 12, 20);
        x.holds(3, 13, 20);
        x.clear(3).is(2);
        x.remove(0, 20).is(1);
        x.holds(0, 10);
        x.holds(1, 20, 11);
        x.holds(2, 12, 20);
        x.holds(3);
    }

    private static void ordersAreAtFirstEmpty() {
        for (int used = 0; used < 4; used++) {
            Run x = new Run(checks, "ORDERS 0 .. 3, at first empty");
            x.set(used, 500, 1).is(1);
            for (int order = 0; order < 4; order++) {
                x.size(order).is(order == used ? 1 : 0);
                x.at(order, 0).is(order == used ? 500 : NONE);
            }
        }
    }

    private static void everyMemberIsOne() {
        Run x = null;
        for (int member = 0; member < 1000; member++) {
            x = withCallsLeft(x, 7, "MEMBERS have numbers 0 .. 999");
            int order = member % 4;
            x.set(order, member, member - 500).is(1);
            x.score(order, member).is(member - 500);
            x.rank(order, member).is(0);
            x.at(order, 0).is(member);
            x.walk(order, 0, 1).is(7 * 31 + member);
            x.remove(order, member).is(1);
            x.rank(order, member).is(NONE);
        }
    }

    private static void tenComesAheadOfNine() {
        String sentence = "a member's WORD is its number in decimal digits (so 10 comes ahead of 9)";
        dueAhead(new Run(checks, sentence), 10, 9);
        dueAhead(new Run(checks, sentence), 100, 9);
        dueAhead(new Run(checks, sentence), 100, 99);
        dueAhead(new Run(checks, sentence), 998, 999);
        Run x = new Run(checks, sentence);
        for (int member : new int[] {9, 10, 11, 99, 100, 999, 0, 1, 2, 20}) {
            x.set(0, member, 0).is(1);
        }
        x.holds(0, 0, 1, 10, 100, 11, 2, 20, 9, 99, 999);
    }

    private static void lesserScoreFirst() {
        String sentence = "An order has members with SCORES, the lesser score first";
        // The words go the other way, so that only the scores can make this order.
        int[] falling = IntStream.range(0, RISING_SCORES.length).map(i -> 999 - i).toArray();
        Run rises = new Run(checks, sentence);
        Run falls = new Run(checks, sentence);
        for (int i = 0; i < falling.length; i++) {
            int back = falling.length - 1 - i;
            rises.set(0, falling[i], RISING_SCORES[i]).is(1);
            falls.set(0, falling[back], RISING_SCORES[back]).is(1);
        }
        rises.holds(0, falling);
        falls.holds(0, falling);
        for (int lesser = 0; lesser < falling.length; lesser++) {
            for (int greater = lesser + 1; greater < falling.length; greater++) {
                Run pair = new Run(checks, sentence);
                pair.set(1, 8, RISING_SCORES[lesser]).is(1);
                pair.set(1, 3, RISING_SCORES[greater]).is(1);
                pair.holds(1, 8, 3);
            }
        }
    }

    private static void scoresHave64Bits() {
        Run x = new Run(checks, "SCORES (64 bits)");
        x.set(0, 1, 0).is(1);
        for (int bit = 0; bit < 64; bit++) {
            long score = 1L << bit;
            x.set(0, 1, score).is(2);
            x.score(0, 1).is(score);
            x.set(0, 1, score).is(0);
            x.below(0, score, false).is(0);
            x.below(0, score, true).is(1);
        }
    }

    private static void lesserWordOfEqualScores() {
        int[] words = IntStream.range(0, 1000).boxed()
                .sorted(Comparator.comparing(String::valueOf)).mapToInt(i -> i).toArray();
        Run x = null;
        for (int i = 1; i < words.length; i++) {
            x = withCallsLeft(x, 14, "of equal ones the lesser word, byte by byte");
            dueAhead(x, words[i - 1], words[i]);
        }
    }

    private static void lesserWordOfManyEqualScores() {
        for (int part = 0; part < 4; part++) {
            Run x = new Run(checks, "of equal ones the lesser word");
            int[] members = new int[250];
            for (int i = 0; i < 250; i++) {
                members[i] = (part + 4 * i) * 617 % 1000;
                x.set(part, members[i], -1).is(1);
            }
            int[] sorted = sorted(members, member -> 0L);
            for (int rank = 0; rank < 250; rank++) {
                x.at(part, rank).is(sorted[rank]);
            }
            x.walk(part, 0, 1000).is(sumOf(sorted));
        }
    }

    private static void shorterWordFirst() {
        Run x = null;
        for (int member = 10; member < 1000; member++) {
            x = withCallsLeft(x, 28, "(a shorter one that another one begins with first)");
            dueAhead(x, member / 10, member);
            if (member >= 100) {
                dueAhead(x, member / 100, member);
            }
        }
    }

    private static void ranksAreCountedFrom0() {
        Run x = new Run(checks, "RANKS are counted from 0");
        x.set(2, 700, 4).is(1);
        x.rank(2, 700).is(0);
        x.at(2, 0).is(700);
        x.at(2, 1).is(NONE);
        x.set(2, 800, 3).is(1);
        x.rank(2, 800).is(0);
        x.rank(2, 700).is(1);
        x.at(2, 0).is(800);
        x.at(2, 1).is(700);
        x.at(2, 2).is(NONE);
        x.walk(2, 0, 1).is(7 * 31 + 800);
        x.walk(2, 1, 1).is(7 * 31 + 700);
    }

    private static void memoryIsTheObjectsOwn() {
        String sentence = "All memory is the class's own";
        Run one = new Run(checks, sentence);
        Run other = new Run(checks, sentence);
        for (int order = 0; order < 4; order++) {
            one.set(order, 5, 50).is(1);
            other.holds(order);
            other.score(order, 5).is(0);
            other.set(order, 5, 60).is(1);
            other.set(order, 6, 55).is(1);
            one.score(order, 5).is(50);
            other.clear(order).is(2);
            one.holds(order, 5);
        }
    }

    private static void noOrderIsRefused() {
        for (int none : NO_ORDERS) {
            for (int member : new int[] {0, 1, 20, 300, 999, -1, 1000}) {
                refused("An order that is none", x -> x.set(none, member, 12).is(NONE));
                refused("An order that is none", x -> x.remove(none, member).is(NONE));
                refused("An order that is none", x -> x.score(none, member).is(NONE));
                refused("An order that is none", x -> x.rank(none, member).is(NONE));
            }
            refused("An order that is none", x -> x.clear(none).is(NONE));
            refused("An order that is none", x -> x.size(none).is(NONE));
            for (int number : new int[] {0, 1, 2, 3, -1, 1000, 1001, MIN, MAX}) {
                refused("An order that is none", x -> x.at(none, number).is(NONE));
                refused("An order that is none", x -> x.walk(none, number, 1).is(NONE));
                refused("An order that is none", x -> x.walk(none, 0, number).is(NONE));
            }
            for (long score : RISING_SCORES) {
                refused("An order that is none", x -> x.below(none, score, false).is(NONE));
                refused("An order that is none", x -> x.below(none, score, true).is(NONE));
            }
        }
    }

    private static void noMemberIsRefused() {
        for (int none : NO_MEMBERS) {
            for (int order : new int[] {0, 1, 2, 3, -1, 4}) {
                refused("A member that is none", x -> x.set(order, none, 12).is(NONE));
                refused("A member that is none", x -> x.set(order, none, 0).is(NONE));
                refused("A member that is none", x -> x.remove(order, none).is(NONE));
                refused("A member that is none", x -> x.score(order, none).is(NONE));
                refused("A member that is none", x -> x.rank(order, none).is(NONE));
            }
        }
    }

    /** Calls an object that holds members, and looks for a change in all that it holds. */
    private static void refused(String sentence, Consumer<Run> call) {
        Run x = new Run(checks, sentence + " is refused (NONE), changing nothing");
        setUpFour(x);
        call.accept(x);
        dueFour(x);
        call.accept(x);
        Run empty = new Run(checks, sentence + " is refused (NONE), changing nothing, in an empty object");
        call.accept(empty);
        for (int order = 0; order < 4; order++) {
            empty.holds(order);
        }
        setUpFour(empty);
        dueFour(empty);
    }

    private static void readingChangesNothing() {
        Run x = new Run(checks, "Nothing but set, remove and clear changes what an order has");
        setUpFour(x);
        dueFour(x);
        x.score(0, 20).is(10);
        x.score(3, 998).is(0);
        x.rank(1, 998).is(NONE);
        x.at(0, -1).is(NONE);
        x.at(0, 3).is(NONE);
        x.below(0, 30, true).is(3);
        x.below(3, 30, false).is(0);
        x.size(3).is(0);
        x.walk(0, -1, 3).is(NONE);
        x.walk(0, 0, 1001).is(NONE);
        x.walk(0, 2, 2).is(7 * 31 + 300);
        dueFour(x);
    }

    private static void setUpFour(Run x) {
        x.set(0, 1, 20).is(1);
        x.set(0, 20, 10).is(1);
        x.set(0, 300, 30).is(1);
        x.set(1, 0, Long.MIN_VALUE).is(1);
        x.set(1, 999, Long.MAX_VALUE).is(1);
        x.set(2, 999, -1).is(1);
    }

    private static void dueFour(Run x) {
        x.holds(0, 20, 1, 300);
        x.score(0, 20).is(10);
        x.score(0, 1).is(20);
        x.score(0, 300).is(30);
        x.holds(1, 0, 999);
        x.score(1, 0).is(Long.MIN_VALUE);
        x.score(1, 999).is(Long.MAX_VALUE);
        x.holds(2, 999);
        x.score(2, 999).is(-1);
        x.holds(3);
        x.score(3, 999).is(0);
    }

    // ---- Promise 1

    private static void newObjectIsEmpty() {
        Run x = null;
        for (int member = 0; member < 1000; member++) {
            x = withCallsLeft(x, 8, "1: All orders are empty");
            for (int order = 0; order < 4; order++) {
                x.score(order, member).is(0);
                x.rank(order, member).is(NONE);
            }
        }
        x = new Run(checks, "1: All orders are empty");
        for (int order = 0; order < 4; order++) {
            x.holds(order);
            x.below(order, Long.MAX_VALUE, true).is(0);
            x.below(order, Long.MIN_VALUE, false).is(0);
            x.remove(order, 0).is(0);
            x.remove(order, 999).is(0);
            x.clear(order).is(0);
        }
    }

    // ---- Promise 2

    private static void setOfANewMember() {
        Run x = new Run(checks, "2: 1 when it is new there");
        x.set(0, 0, 0).is(1);
        x.set(1, 0, 0).is(1);
        x.set(0, 999, -1).is(1);
        x.set(0, 5, Long.MAX_VALUE).is(1);
        x.set(0, 6, Long.MIN_VALUE).is(1);
        x.remove(0, 0).is(1);
        x.set(0, 0, 0).is(1);
        x.remove(0, 5).is(1);
        x.set(0, 5, Long.MAX_VALUE).is(1);
        x.clear(0).is(4);
        x.set(0, 0, 0).is(1);
        x.set(0, 999, -1).is(1);
        x.set(0, 6, 3).is(1);
        x.holds(0, 999, 0, 6);
    }

    private static void setOfAnotherScore() {
        Run x = new Run(checks, "2: 2 when it had another one");
        x.set(3, 4, 0).is(1);
        long had = 0;
        for (long score : RISING_SCORES) {
            x.set(3, 4, score).is(score == had ? 0 : 2);
            x.score(3, 4).is(score);
            x.size(3).is(1);
            had = score;
        }
        x.set(3, 5, 0).is(1);
        x.set(3, 6, 0).is(1);
        x.holds(3, 5, 6, 4);
        x.set(3, 4, 0).is(2);
        x.holds(3, 4, 5, 6);
        x.set(3, 5, 1).is(2);
        x.holds(3, 4, 6, 5);
        x.set(3, 6, -1).is(2);
        x.holds(3, 6, 4, 5);
        x.set(3, 4, -1).is(2);
        x.holds(3, 4, 6, 5);
        // Stays where it is, with another score.
        x.set(3, 6, 0).is(2);
        x.holds(3, 4, 6, 5);
        x.score(3, 6).is(0);
    }

    private static void setOfJustThisScore() {
        Run x = new Run(checks, "2: 0 when it had just this");
        int member = 0;
        for (long score : RISING_SCORES) {
            x.set(1, member, score).is(1);
            x.set(1, member, score).is(0);
            x.set(1, member, score).is(0);
            x.score(1, member).is(score);
            x.size(1).is(member + 1);
            x.rank(1, member).is(member);
            member++;
        }
        x.clear(1).is(member);
    }

    private static void setHoldsFromNowOn() {
        Run x = new Run(checks, "2: A member has a score in an order from now on");
        x.set(0, 123, -77).is(1);
        for (int i = 0; i < 169; i++) {
            int member = i == 123 ? 999 : i;
            x.set(0, member, i - 100).is(1);
            x.set(1, 123, i).is(i == 0 ? 1 : 2);
            x.remove(0, member).is(1);
        }
        x.clear(1).is(1);
        x.score(0, 123).is(-77);
        x.rank(0, 123).is(0);
    }

    // ---- Promise 3

    private static void removeOfOneThatIsThere() {
        Run x = new Run(checks, "3: A member leaves an order: 1");
        for (int member = 1; member <= 5; member++) {
            x.set(0, member, member % 2).is(1);
            x.set(1, member, 0).is(1);
        }
        x.holds(0, 2, 4, 1, 3, 5);
        x.remove(0, 1).is(1);
        x.holds(0, 2, 4, 3, 5);
        x.remove(0, 2).is(1);
        x.holds(0, 4, 3, 5);
        x.remove(0, 5).is(1);
        x.holds(0, 4, 3);
        x.score(0, 5).is(0);
        x.rank(0, 5).is(NONE);
        x.below(0, 0, true).is(1);
        x.below(0, 1, true).is(2);
        x.holds(1, 1, 2, 3, 4, 5);
    }

    private static void removeOfOneThatIsNot() {
        Run x = new Run(checks, "3: 0 when it wasn't there");
        x.remove(0, 0).is(0);
        x.remove(3, 999).is(0);
        x.set(0, 7, 1).is(1);
        x.remove(0, 8).is(0);
        x.remove(1, 7).is(0);
        x.holds(0, 7);
        x.remove(0, 7).is(1);
        x.remove(0, 7).is(0);
        x.set(0, 7, 1).is(1);
        x.set(0, 8, 1).is(1);
        x.clear(0).is(2);
        x.remove(0, 7).is(0);
        x.remove(0, 8).is(0);
        x.holds(0);
    }

    private static void removeDownToNone() {
        Run x = new Run(checks, "3: A member leaves an order, down to none");
        fill(x, 250);
        int[] sorted = membersInOrder(250);
        for (int i = 0; i < 250; i++) {
            // From both ends and the middle by turns.
            int index = i % 2 == 0 ? 125 + i / 2 : 124 - i / 2;
            x.remove(0, sorted[index]).is(1);
        }
        x.holds(0);
        x.below(0, Long.MAX_VALUE, true).is(0);
        x.set(0, 1, 1).is(1);
        x.holds(0, 1);
    }

    // ---- Promise 4

    private static void clearAnswersHowMany() {
        for (int count : new int[] {1, 2, 3, 17, 100, 500}) {
            Run x = new Run(checks, "4: All members leave an order: how many");
            fill(x, count);
            x.set(1, 5, 1).is(1);
            x.clear(0).is(count);
            x.holds(0);
            x.holds(1, 5);
        }
        Run x = new Run(checks, "4: how many, after some have left, moved or come again");
        fill(x, 30);
        int[] sorted = membersInOrder(30);
        x.remove(0, sorted[0]).is(1);
        x.remove(0, sorted[29]).is(1);
        x.set(0, sorted[3], 1000).is(2);
        x.set(0, sorted[3], 1000).is(0);
        x.set(0, sorted[0], 7).is(1);
        x.clear(0).is(29);
        for (int member : sorted) {
            x.score(0, member).is(0);
            x.rank(0, member).is(NONE);
            x.remove(0, member).is(0);
        }
        fill(x, 30);
        x.holds(0, sorted);
        x.clear(0).is(30);
    }

    private static void clearOfAnEmptyOrder() {
        Run x = new Run(checks, "4: how many, of an empty order");
        for (int order = 0; order < 4; order++) {
            x.clear(order).is(0);
            x.clear(order).is(0);
            x.set(order, 3, 3).is(1);
            x.clear(order).is(1);
            x.clear(order).is(0);
            x.set(order, 3, 3).is(1);
            x.remove(order, 3).is(1);
            x.clear(order).is(0);
            x.holds(order);
        }
    }

    // ---- Promise 5

    private static void scoreOfOneThatIsThere() {
        Run x = new Run(checks, "5: A member's score");
        for (int i = 0; i < RISING_SCORES.length; i++) {
            x.set(0, i, RISING_SCORES[i]).is(1);
            x.set(1, i, ~RISING_SCORES[i]).is(1);
        }
        for (int i = 0; i < RISING_SCORES.length; i++) {
            x.score(0, i).is(RISING_SCORES[i]);
            x.score(1, i).is(~RISING_SCORES[i]);
        }
    }

    private static void scoreOfOneThatIsNot() {
        Run x = new Run(checks, "5: 0 when it isn't there");
        x.score(0, 0).is(0);
        x.score(3, 999).is(0);
        x.set(0, 4, -9).is(1);
        x.score(0, 5).is(0);
        x.score(1, 4).is(0);
        x.remove(0, 4).is(1);
        x.score(0, 4).is(0);
        x.set(0, 4, -9).is(1);
        x.clear(0).is(1);
        x.score(0, 4).is(0);
        x.set(2, 4, 0).is(1);
        x.score(2, 4).is(0);
        x.size(2).is(1);
    }

    // ---- Promise 6

    private static void rankOfOneThatIsNot() {
        Run x = new Run(checks, "6: A member's rank; NONE also when it isn't there");
        x.rank(0, 0).is(NONE);
        x.rank(3, 999).is(NONE);
        x.set(0, 4, 0).is(1);
        x.rank(0, 4).is(0);
        x.rank(0, 0).is(NONE);
        x.rank(0, 5).is(NONE);
        x.rank(1, 4).is(NONE);
        x.remove(0, 4).is(1);
        x.rank(0, 4).is(NONE);
        x.set(0, 4, 0).is(1);
        x.rank(0, 4).is(0);
        x.clear(0).is(1);
        x.rank(0, 4).is(NONE);
    }

    // ---- Promise 7

    private static void atARankThatIsNone() {
        Run x = new Run(checks, "7: The member of a rank; NONE also when there is none");
        for (int rank : NO_RANKS_OF_THREE) {
            x.at(0, rank).is(NONE);
        }
        x.at(0, 0).is(NONE);
        x.set(0, 0, 2).is(1);
        x.set(0, 999, 1).is(1);
        x.at(0, 2).is(NONE);
        x.set(0, 50, 3).is(1);
        for (int rank : NO_RANKS_OF_THREE) {
            x.at(0, rank).is(NONE);
        }
        x.at(0, 0).is(999);
        x.at(0, 1).is(0);
        x.at(0, 2).is(50);
        x.at(1, 0).is(NONE);
        x.remove(0, 0).is(1);
        x.at(0, 2).is(NONE);
        x.at(0, 1).is(50);
        x.clear(0).is(2);
        x.at(0, 0).is(NONE);
    }

    // ---- Promise 8

    private static void belowAScore() {
        Run x = withSteps("8: How many members have a score below one");
        x.below(0, 9, false).is(0);
        x.below(0, 10, false).is(0);
        x.below(0, 11, false).is(1);
        x.below(0, 20, false).is(1);
        x.below(0, 21, false).is(4);
        x.below(0, 30, false).is(4);
        x.below(0, 31, false).is(5);
        x.below(1, 31, false).is(0);
    }

    private static void belowAScoreTooJustIt() {
        Run x = withSteps("8: or (too) just it");
        x.below(0, 9, true).is(0);
        x.below(0, 10, true).is(1);
        x.below(0, 11, true).is(1);
        x.below(0, 19, true).is(1);
        x.below(0, 20, true).is(4);
        x.below(0, 21, true).is(4);
        x.below(0, 29, true).is(4);
        x.below(0, 30, true).is(5);
        x.below(0, 31, true).is(5);
        x.below(1, 31, true).is(0);
    }

    /** Scores 10, 20 three times, with the first and the last word among them, and 30. */
    private static Run withSteps(String sentence) {
        Run x = new Run(checks, sentence);
        x.set(0, 5, 30).is(1);
        x.set(0, 999, 20).is(1);
        x.set(0, 0, 20).is(1);
        x.set(0, 6, 20).is(1);
        x.set(0, 7, 10).is(1);
        return x;
    }

    private static void belowAtTheEndsOfTheScores() {
        Run x = new Run(checks, "8: below one, or just it, of 64 bits");
        for (int i = 0; i < RISING_SCORES.length; i++) {
            x.set(0, i, RISING_SCORES[i]).is(1);
            x.set(0, 999 - i, RISING_SCORES[i]).is(1);
        }
        for (int i = 0; i < RISING_SCORES.length; i++) {
            x.below(0, RISING_SCORES[i], false).is(2 * i);
            x.below(0, RISING_SCORES[i], true).is(2 * i + 2);
        }
        x.below(1, Long.MIN_VALUE, false).is(0);
        x.below(1, Long.MAX_VALUE, true).is(0);
    }

    // ---- Promise 9

    private static void sizeOfAnOrder() {
        Run x = new Run(checks, "9: How many members an order has");
        x.size(0).is(0);
        for (int i = 0; i < 200; i++) {
            x.set(0, 999 - i, i / 3).is(1);
            x.size(0).is(i + 1);
        }
        x.set(0, 999, 500).is(2);
        x.size(0).is(200);
        x.set(0, 999, 500).is(0);
        x.size(0).is(200);
        x.remove(0, 999).is(1);
        x.size(0).is(199);
        x.remove(0, 999).is(0);
        x.size(0).is(199);
        x.set(0, 1000, 1).is(NONE);
        x.size(0).is(199);
        x.size(1).is(0);
        x.clear(0).is(199);
        x.size(0).is(0);
    }

    // ---- Promise 10

    private static void walkAsManyAsThereAre() {
        Run x = new Run(checks, "10: as many as there are");
        fill(x, 300);
        int[] sorted = membersInOrder(300);
        x.walk(0, 0, 299).is(sumOf(Arrays.copyOf(sorted, 299)));
        x.walk(0, 0, 300).is(sumOf(sorted));
        x.walk(0, 0, 301).is(sumOf(sorted));
        x.walk(0, 0, 1000).is(sumOf(sorted));
        for (int from : new int[] {1, 2, 3, 50, 150, 297, 298, 299}) {
            int[] rest = Arrays.copyOfRange(sorted, from, 300);
            x.walk(0, from, 300 - from).is(sumOf(rest));
            x.walk(0, from, 301 - from).is(sumOf(rest));
            x.walk(0, from, 299 - from).is(sumOf(Arrays.copyOf(rest, rest.length - 1)));
            x.walk(0, from, 1000).is(sumOf(rest));
        }
    }

    private static void walkFromSevenOn() {
        Run x = new Run(checks, "10: as a sum: from 7 on, where there is none");
        for (int n : new int[] {0, 1, 999, 1000}) {
            x.walk(0, 0, n).is(7);
            x.walk(0, 1, n).is(7);
            x.walk(0, MAX, n).is(7);
        }
        x.set(0, 999, 4).is(1);
        x.set(0, 0, 5).is(1);
        for (int n : new int[] {0, 1, 999, 1000}) {
            x.walk(0, 2, n).is(7);
            x.walk(0, 3, n).is(7);
            x.walk(0, 1000, n).is(7);
            x.walk(0, MAX - 1, n).is(7);
            x.walk(0, MAX, n).is(7);
            x.walk(3, 0, n).is(7);
        }
        x.walk(0, 0, 0).is(7);
        x.walk(0, 1, 0).is(7);
        x.clear(0).is(2);
        x.walk(0, 0, 1000).is(7);
    }

    private static void walkAtMostN() {
        Run x = new Run(checks, "10: at most n (0 .. 1000)");
        fill(x, 400);
        int[] sorted = membersInOrder(400);
        for (int n = 0; n < 50; n++) {
            x.walk(0, 0, n).is(sumOf(Arrays.copyOf(sorted, n)));
            x.walk(0, 123, n).is(sumOf(Arrays.copyOfRange(sorted, 123, 123 + n)));
        }
        x.walk(0, 0, 999).is(sumOf(sorted));
        x.walk(0, 0, 1000).is(sumOf(sorted));
    }

    private static void walkOfAnotherN() {
        Run x = new Run(checks, "10: NONE for another n");
        for (int order = 0; order < 2; order++) {
            for (int n : new int[] {-1, 1001, -2, -1000, 1002, 1 << 16, 1 << 30, MIN, MIN + 1, MAX - 1, MAX}) {
                x.walk(order, 0, n).is(NONE);
                x.walk(order, 1, n).is(NONE);
                x.walk(order, MAX, n).is(NONE);
                x.walk(order, -1, n).is(NONE);
            }
            x.set(1, 2, 3).is(order == 0 ? 1 : 0);
        }
        x.holds(1, 2);
    }

    private static void walkFromBelow0() {
        Run x = new Run(checks, "10: NONE for from below 0");
        for (int order = 0; order < 2; order++) {
            for (int from : new int[] {-1, -2, -1000, -(1 << 16), MIN + 1, MIN}) {
                x.walk(order, from, 0).is(NONE);
                x.walk(order, from, 1).is(NONE);
                x.walk(order, from, 2).is(NONE);
                x.walk(order, from, 1000).is(NONE);
            }
            x.set(1, 2, 3).is(order == 0 ? 1 : 0);
        }
        x.walk(1, 0, 1000).is(7 * 31 + 2);
        x.holds(1, 2);
    }

    private static void walkAsAnInt() {
        Run x = new Run(checks, "10: each time 31 times what there is and the member (as an int)");
        x.set(0, 0, 0).is(1);
        x.walk(0, 0, 1).is(217);
        x.set(0, 999, 1).is(1);
        x.walk(0, 0, 2).is(7726);
        x.set(0, 998, 2).is(1);
        x.walk(0, 0, 3).is(240504);
        x.set(0, 997, 3).is(1);
        x.walk(0, 0, 4).is(7456621);
        x.set(0, 996, 4).is(1);
        x.walk(0, 0, 5).is(231156247);
        // 31 * 231156247 + 995 = 7165844652, and the int of it is less by 2 * 2^32.
        x.set(0, 995, 5).is(1);
        x.walk(0, 0, 6).is(7165844652L - 2 * (1L << 32));
        x.walk(0, 0, 1000).is(-1424089940);
        // 31 * -1424089940 + 994, and the int of it is more by 10 * 2^32.
        x.set(0, 994, 6).is(1);
        x.walk(0, 0, 7).is(-44146787146L + 10 * (1L << 32));
    }

    // ---- What these tests have in common

    /** Members in order 0 that are spread over all numbers, many of them with equal scores of -2 to 2. */
    private static void fill(Run x, int count) {
        for (int i = 0; i < count; i++) {
            x.set(0, filled(i), filledScore(filled(i))).is(1);
        }
    }

    private static int[] membersInOrder(int count) {
        return sorted(IntStream.range(0, count).map(BoundariesTest::filled).toArray(), BoundariesTest::filledScore);
    }

    private static int filled(int i) {
        return i * 617 % 1000;
    }

    private static long filledScore(int member) {
        return member * 7 % 5 - 2;
    }

    private static int notFilled() {
        return filled(511);
    }

    private interface ScoreOf {
        long of(int member);
    }

    private static int[] sorted(int[] members, ScoreOf score) {
        return Arrays.stream(members).boxed()
                .sorted(Comparator.<Integer>comparingLong(score::of).thenComparing(String::valueOf))
                .mapToInt(i -> i).toArray();
    }

    /** The sum of a walk, each step in 64 bits and then cut down to 32. */
    private static int sumOf(int[] members) {
        long sum = 7;
        for (int member : members) {
            sum = (int) (31L * sum + member);
        }
        return (int) sum;
    }

    /** Two members of one score, whichever of them comes first; the order is empty before and after. */
    private static void dueAhead(Run x, int lesser, int greater) {
        x.set(3, lesser, 6).is(1);
        x.set(3, greater, 6).is(1);
        x.at(3, 0).is(lesser);
        x.at(3, 1).is(greater);
        x.clear(3).is(2);
        x.set(3, greater, 6).is(1);
        x.set(3, lesser, 6).is(1);
        x.rank(3, lesser).is(0);
        x.rank(3, greater).is(1);
        x.clear(3).is(2);
    }

    private static Run withCallsLeft(Run x, int calls, String sentence) {
        return x != null && x.callsLeft() >= calls ? x : new Run(checks, sentence);
    }
}
