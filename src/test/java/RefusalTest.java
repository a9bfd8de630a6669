import java.util.ArrayList;
import java.util.Arrays;
import java.util.List;

/**
 * Each call with each mixture of numbers at its limits: the last one that is allowed and the first one that
 * is not, on both sides, and the ends of int. What is due is read off the document: what is thrown first,
 * that a refused call changes nothing, that a question changes nothing, and that nothing else throws.
 */
public final class RefusalTest {
    private static final int LEAST = Integer.MIN_VALUE;
    private static final int MOST = Integer.MAX_VALUE;

    private static final String NOTHING = "nothing";
    private static final String NO_INDEX = IndexOutOfBoundsException.class.getName();
    private static final String NO_ARGUMENT = IllegalArgumentException.class.getName();
    private static final String NO_STATE = IllegalStateException.class.getName();

    private interface Asked {
        double answer(FairHandful x, int[] a);
    }

    private interface Allowed {
        boolean is(int[] a);
    }

    /** A table of hands that is made again for each call, and what the document tells of it. */
    private enum Table {
        NO_HANDS(new int[0]),
        ONE_EMPTY(new int[] {0}),
        ONE_FULL(new int[] {8}),
        TWO(new int[] {2, 3}),
        FIVE(new int[] {2, 0, 2, 2, 1}),
        FIVE_ALIKE(new int[] {8, 8, 8, 8, 8});

        final int[] held;

        Table(int[] held) {
            this.held = held;
        }

        FairHandful made() {
            FairHandful x = new FairHandful();
            switch (this) {
                case ONE_EMPTY:
                    x.addHand(1, 0, 0);
                    break;
                case ONE_FULL:
                    x.addHand(8, 1, 9999);
                    x.offerRow(0, 995, 5, 8);
                    break;
                case TWO:
                    x.addHand(3, 0, 1);
                    x.addHand(3, 0, 2);
                    x.offerRow(0, 7, 1, 2);
                    x.offerRow(1, 7, 1, 9);
                    break;
                case FIVE:
                    x.addHand(2, 0, 5);
                    x.addHand(2, 0, 6);
                    x.addHand(3, 0, 7);
                    x.addHand(2, 1, 8);
                    x.addHand(2, 1, 9);
                    x.offerRow(0, 1, 1, 20);
                    x.offerRow(2, 1, 1, 2);
                    x.offerRow(3, 1, 1, 20);
                    x.offer(4, 1, 1);
                    break;
                case FIVE_ALIKE:
                    for (int hand = 0; hand < 5; hand++) {
                        x.addHand(8, 0, hand);
                        x.offerRow(hand, hand, 1, 30);
                    }
                    break;
                default:
                    break;
            }
            return x;
        }

        boolean has(int hand) {
            return hand >= 0 && hand < held.length;
        }

        boolean holds(int hand, int place) {
            return has(hand) && place >= 0 && place < held[hand];
        }

        /** Whether both have the way 0 and as much room. */
        boolean joinable(int hand, int other) {
            return this == FIVE ? hand < 2 && other < 2 || hand == 2 && other == 2 : this != ONE_FULL;
        }
    }

    public static void main(String[] args) {
        for (Table table : Table.values()) {
            moves(table);
            counts(table);
            places(table);
            pairs(table);
            questions(table);
        }
        handsOneByOne();
        Check.end();
    }

    private static boolean within(int number, int least, int most) {
        return least <= number && number <= most;
    }

    private static int[] around(int least, int most) {
        return new int[] {least - 1, least, most, most + 1, LEAST, MOST};
    }

    /** Hands: the first, the last, those beside them, the largest that any table has, the ends of int. */
    private static int[] handsOf(Table table) {
        return new int[] {-1, 0, table.held.length - 1, table.held.length, 4, 5, 6, LEAST, MOST};
    }

    private static void moves(Table table) {
        for (int[] a : mixtures(around(1, 8), around(0, 1), around(0, 9999))) {
            boolean allowed = within(a[0], 1, 8) && within(a[1], 0, 1) && within(a[2], 0, 9999);
            String due = !allowed ? NO_ARGUMENT : table.held.length == 5 ? NO_STATE : NOTHING;
            move(table, "addHand", due, a, (x, b) -> x.addHand(b[0], b[1], b[2]));
        }
        int[] hands = handsOf(table);
        for (int[] a : mixtures(hands, around(0, 999), around(1, 9))) {
            String due = due(table, a, within(a[1], 0, 999) && within(a[2], 1, 9));
            move(table, "offer", due, a, (x, b) -> x.offer(b[0], b[1], b[2]));
        }
        for (int[] a : mixtures(hands, around(0, 999), around(1, 9), around(1, 200))) {
            String due = due(table, a, within(a[1], 0, 999) && within(a[2], 1, 9) && within(a[3], 1, 200));
            move(table, "offerRow", due, a, (x, b) -> x.offerRow(b[0], b[1], b[2], b[3]));
        }
        for (int[] a : mixtures(hands)) {
            move(table, "mix", due(table, a, true), a, (x, b) -> x.mix(b[0]));
        }
        for (int[] a : mixtures(hands, around(0, 9999))) {
            move(table, "setLuck", due(table, a, within(a[1], 0, 9999)), a, (x, b) -> x.setLuck(b[0], b[1]));
        }
        for (int[] a : mixtures(handsInPairs(table), handsInPairs(table))) {
            String due = !table.has(a[0]) || !table.has(a[1]) ? NO_INDEX
                : a[0] == a[1] ? NO_ARGUMENT : !table.joinable(a[0], a[1]) ? NO_STATE : NOTHING;
            move(table, "join", due, a, (x, b) -> x.join(b[0], b[1]));
        }
    }

    private static void counts(Table table) {
        question(table, "hands", mixtures(), NO_INDEX, a -> true, (x, b) -> x.hands());
        question(table, "digest", mixtures(), NO_INDEX, a -> true, (x, b) -> x.digest());
        List<int[]> hands = mixtures(handsOf(table));
        Allowed hand = a -> table.has(a[0]);
        question(table, "holds", hands, NO_INDEX, hand, (x, b) -> x.holds(b[0]));
        question(table, "roomOf", hands, NO_INDEX, hand, (x, b) -> x.roomOf(b[0]));
        question(table, "seenBy", hands, NO_INDEX, hand, (x, b) -> x.seenBy(b[0]));
        question(table, "loadOf", hands, NO_INDEX, hand, (x, b) -> x.loadOf(b[0]));
        question(table, "luckOf", hands, NO_INDEX, hand, (x, b) -> x.luckOf(b[0]));
        question(table, "sum", hands, NO_INDEX, hand, (x, b) -> x.sum(b[0]));
        question(table, "lowest", hands, NO_INDEX, hand, (x, b) -> x.lowest(b[0]));
        question(table, "middle", hands, NO_INDEX, hand, (x, b) -> x.middle(b[0]));
        question(table, "untilTaken", hands, NO_INDEX, hand, (x, b) -> x.untilTaken(b[0]));
        question(table, "weightWanted", hands, NO_INDEX, hand, (x, b) -> x.weightWanted(b[0]));
        question(table, "meanValue", hands, NO_INDEX, hand, (x, b) -> x.meanValue(b[0]));
    }

    private static void places(Table table) {
        List<int[]> places = mixtures(handsOf(table), new int[] {-1, 0, 1, 2, 3, 6, 7, 8, 9, LEAST, MOST});
        Allowed held = a -> table.holds(a[0], a[1]);
        question(table, "valueAt", places, NO_INDEX, held, (x, b) -> x.valueAt(b[0], b[1]));
        question(table, "weightAt", places, NO_INDEX, held, (x, b) -> x.weightAt(b[0], b[1]));
        question(table, "cameAs", places, NO_INDEX, held, (x, b) -> x.cameAs(b[0], b[1]));
        question(table, "rankOf", places, NO_INDEX, held, (x, b) -> x.rankOf(b[0], b[1]));
        // Any value can be looked for; only the hand can be refused.
        List<int[]> values = mixtures(handsOf(table), around(0, 999));
        question(table, "placeOf", values, NO_INDEX, a -> table.has(a[0]), (x, b) -> x.placeOf(b[0], b[1]));
    }

    private static int[] handsInPairs(Table table) {
        return new int[] {-1, 0, 1, 2, 3, 4, 5, table.held.length, LEAST, MOST};
    }

    private static void pairs(Table table) {
        List<int[]> pairs = mixtures(handsInPairs(table), handsInPairs(table));
        Allowed both = a -> table.has(a[0]) && table.has(a[1]);
        question(table, "shared", pairs, NO_INDEX, both, (x, b) -> x.shared(b[0], b[1]));
        question(table, "wouldJoin", pairs, NO_INDEX, both, (x, b) -> x.wouldJoin(b[0], b[1]));
    }

    private static void questions(Table table) {
        int[] hands = handsOf(table);
        question(table, "luckIn", mixtures(hands, around(0, 1000)), NO_ARGUMENT,
            a -> within(a[1], 0, 1000), (x, b) -> x.luckIn(b[0], b[1]));
        int[] below = {0, 1, 2, 99, 100, 101, LEAST, MOST};
        int[] drawn = {-1, 0, 1, 98, 99, 100, 101, LEAST, MOST};
        question(table, "drawsUntil", mixtures(hands, below, drawn), NO_ARGUMENT,
            a -> within(a[1], 1, 100) && 0 <= a[2] && a[2] < a[1], (x, b) -> x.drawsUntil(b[0], b[1], b[2]));
        question(table, "wouldTake", mixtures(hands, around(1, 9)), NO_ARGUMENT,
            a -> within(a[1], 1, 9), (x, b) -> x.wouldTake(b[0], b[1]));
        question(table, "wouldStay", mixtures(hands, around(1, 200)), NO_ARGUMENT,
            a -> within(a[1], 1, 200), (x, b) -> x.wouldStay(b[0], b[1]));
    }

    /** Of a call that names a wrong hand first and wrong arguments behind it. */
    private static String due(Table table, int[] a, boolean allowed) {
        return !table.has(a[0]) ? NO_INDEX : allowed ? NOTHING : NO_ARGUMENT;
    }

    private static void move(Table table, String name, String due, int[] a, Asked call) {
        FairHandful x = table.made();
        String got = thrown(x, a, call);
        same(table, name, a, "threw " + got, "threw " + due);
        if (!due.equals(NOTHING)) {
            same(table, name + ", refused", a, after(x), after(table.made()));
        }
    }

    private static void question(Table table, String name, List<int[]> mixtures, String refusal, Allowed allowed,
            Asked call) {
        String unchanged = after(table.made());
        for (int[] a : mixtures) {
            boolean isAllowed = allowed.is(a);
            String due = refusal.equals(NO_ARGUMENT) ? due(table, a, isAllowed) : isAllowed ? NOTHING : NO_INDEX;
            FairHandful x = table.made();
            String got = thrown(x, a, call);
            same(table, name, a, "threw " + got, "threw " + due);
            same(table, name + ", asked", a, after(x), unchanged);
        }
    }

    private static void same(Table table, String what, int[] a, String got, String due) {
        if (!got.equals(due)) {
            StringBuilder told = new StringBuilder(what + " of");
            for (int number : a) {
                told.append(' ').append(number);
            }
            Check.report(table + ": " + told + ": " + got + ", due is " + due);
        }
    }

    /** The very class is told: a subclass would be what the machine throws. */
    private static String thrown(FairHandful x, int[] a, Asked call) {
        try {
            call.answer(x, a);
            return NOTHING;
        } catch (RuntimeException e) {
            return e.getClass().getName();
        }
    }

    /** What an object answers from now on: all that it keeps has a say in that. */
    private static String after(FairHandful x) {
        StringBuilder told = new StringBuilder("digests ").append(x.digest());
        for (int hand = 0; hand < x.hands(); hand++) {
            told.append(' ').append(x.offerRow(hand, 990, 3, 30)).append(' ').append(x.mix(hand));
        }
        told.append(' ').append(x.digest());
        for (int hand = 0; hand < x.hands(); hand++) {
            for (int other = 0; other < x.hands(); other++) {
                if (x.wouldJoin(hand, other) >= 0) {
                    told.append(' ').append(x.join(hand, other));
                }
            }
        }
        return told.append(' ').append(x.digest()).toString();
    }

    private static List<int[]> mixtures(int[]... choices) {
        List<int[]> mixtures = new ArrayList<>();
        mixtures.add(new int[0]);
        for (int[] numbers : choices) {
            List<int[]> longer = new ArrayList<>();
            for (int[] shorter : mixtures) {
                for (int number : numbers) {
                    int[] a = Arrays.copyOf(shorter, shorter.length + 1);
                    a[shorter.length] = number;
                    longer.add(a);
                }
            }
            mixtures = longer;
        }
        return mixtures;
    }

    /** With so many hands the last one is there, and the next one is not, in each call that names one. */
    private static void handsOneByOne() {
        Asked[] calls = {(x, b) -> x.offer(b[0], 0, 1), (x, b) -> x.offerRow(b[0], 0, 1, 1), (x, b) -> x.mix(b[0]),
            (x, b) -> x.setLuck(b[0], 0), (x, b) -> x.holds(b[0]), (x, b) -> x.placeOf(b[0], 0),
            (x, b) -> x.luckIn(b[0], 0), (x, b) -> x.wouldStay(b[0], 1), (x, b) -> x.shared(b[0], b[0])};
        FairHandful x = new FairHandful();
        for (int number = 0; number <= 5; number++) {
            for (Asked call : calls) {
                String due = number == 0 ? NO_INDEX : NOTHING;
                String there = thrown(x, new int[] {number - 1}, call);
                String behind = thrown(x, new int[] {number}, call);
                Check.that("the last one of " + number + " hands: threw " + there, there.equals(due));
                Check.that("behind " + number + " hands: threw " + behind, behind.equals(NO_INDEX));
            }
            String added = thrown(x, new int[0], (y, b) -> y.addHand(1, 0, 0));
            String addedDue = number < 5 ? NOTHING : NO_STATE;
            Check.that("addHand behind " + number + " hands: threw " + added, added.equals(addedDue));
            Check.same("hands() then", x.hands(), Math.min(number + 1, 5));
        }
    }
}
