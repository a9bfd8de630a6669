/**
 * Each promise of the document, with answers worked out by hand.
 *
 * From the luck 0 on, the lucks that follow are 2777, 5294, 6351, 748, 9285, 8762, 1979; many of the
 * tests below draw along this row.
 */
public final class PromiseTest {
    private static final Class<IndexOutOfBoundsException> NO_INDEX = IndexOutOfBoundsException.class;
    private static final Class<IllegalArgumentException> NO_ARGUMENT = IllegalArgumentException.class;
    private static final Class<IllegalStateException> NO_STATE = IllegalStateException.class;

    private static final int[] NO_HANDS = {1, 5, 6, -1, Integer.MAX_VALUE, Integer.MIN_VALUE};

    public static void main(String[] args) {
        newObject();
        addHand();
        offerFair();
        offerByWeight();
        offerRefused();
        offerRow();
        offerRowRefused();
        mix();
        join();
        joinWithEmptyHands();
        joinRefused();
        setLuck();
        hands();
        counts();
        stones();
        placeOf();
        sumAndMean();
        order();
        shared();
        luckIn();
        drawsUntil();
        drawsUntilAtItsEnd();
        wouldTake();
        wouldStay();
        untilTaken();
        untilTakenAtItsEnd();
        weightWanted();
        wouldJoin();
        digest();
        noSuchHand();
        Check.end();
    }

    private static FairHandful table(int room, int way, int luck) {
        FairHandful x = new FairHandful();
        x.addHand(room, way, luck);
        return x;
    }

    private static void offerAll(FairHandful x, int hand, int... values) {
        for (int value : values) {
            x.offer(hand, value, 1);
        }
    }

    private static void checkValues(String what, FairHandful x, int hand, int... values) {
        Check.same(what + ": holds", x.holds(hand), values.length);
        for (int place = 0; place < values.length; place++) {
            Check.same(what + ": valueAt " + place, x.valueAt(hand, place), values[place]);
        }
    }

    private static int nextLuck(int luck) {
        return (luck * 4621 + 2777) % 10000;
    }

    // Promise 1
    private static void newObject() {
        FairHandful x = new FairHandful();
        Check.same("1: hands() of a new object", x.hands(), 0);
        Check.refused("1: holds(0) of a new object", x, NO_INDEX, () -> x.holds(0));
        x.addHand(1, 0, 0);
        Check.same("1: hands() of another new object", new FairHandful().hands(), 0);
    }

    // Promise 2
    private static void addHand() {
        FairHandful x = new FairHandful();
        int[][] wrong = {{0, 0, 0}, {9, 0, 0}, {-1, 0, 0}, {1, -1, 0}, {1, 2, 0}, {1, 0, -1}, {1, 0, 10000},
            {Integer.MAX_VALUE, 0, 0}, {1, Integer.MIN_VALUE, 0}, {1, 0, Integer.MAX_VALUE}};
        for (int[] a : wrong) {
            Check.refused("2: addHand of room " + a[0] + ", way " + a[1] + ", luck " + a[2], x, NO_ARGUMENT,
                () -> x.addHand(a[0], a[1], a[2]));
        }
        Check.same("2: first hand", x.addHand(1, 0, 0), 0);
        Check.same("2: second hand", x.addHand(8, 1, 9999), 1);
        Check.same("2: room of the second hand", x.roomOf(1), 8);
        Check.same("2: luck of the second hand", x.luckOf(1), 9999);
        Check.same("2: a new hand holds", x.holds(1), 0);
        Check.same("2: a new hand has seen", x.seenBy(1), 0);
        Check.same("2: load of a new hand", x.loadOf(1), 0);
        Check.same("2: third hand", x.addHand(2, 0, 0), 2);
        Check.same("2: fourth hand", x.addHand(2, 0, 0), 3);
        Check.same("2: fifth hand", x.addHand(2, 0, 0), 4);
        Check.refused("2: sixth hand", x, NO_STATE, () -> x.addHand(2, 0, 0));
        Check.refused("2: sixth hand, without room", x, NO_ARGUMENT, () -> x.addHand(0, 0, 0));
    }

    // Promise 3
    private static void offerFair() {
        FairHandful x = table(2, 0, 0);
        Check.same("3: first stone", x.offer(0, 999, 9), 0);
        Check.same("3: second stone", x.offer(0, 0, 1), 1);
        Check.same("3: nothing is drawn while there is room", x.luckOf(0), 0);
        Check.same("3: third stone, 2777 % 3", x.offer(0, 30, 2), -1);
        Check.same("3: one draw for the third stone", x.luckOf(0), 2777);
        Check.same("3: fourth stone, 5294 % 4, as much as the room", x.offer(0, 40, 3), -1);
        Check.same("3: fifth stone, 6351 % 5", x.offer(0, 50, 4), 1);
        Check.same("3: seen, taken or not", x.seenBy(0), 5);
        Check.same("3: load, taken or not", x.loadOf(0), 19);
        checkValues("3: the one whose place is taken is gone", x, 0, 999, 50);
        Check.same("3: weight of the fifth stone", x.weightAt(0, 1), 4);
        Check.same("3: turn of the fifth stone", x.cameAs(0, 1), 5);
    }

    private static void offerByWeight() {
        FairHandful x = table(2, 1, 0);
        Check.same("3: first by weight", x.offer(0, 1, 3), 0);
        Check.same("3: second by weight", x.offer(0, 2, 4), 1);
        Check.same("3: nothing is drawn by weight while there is room", x.luckOf(0), 0);
        Check.same("3: 2777 % 12 < 10, then 5294 % 2", x.offer(0, 3, 5), 0);
        Check.same("3: two draws", x.luckOf(0), 5294);
        Check.same("3: 6351 % 13 is not below 2", x.offer(0, 4, 1), -1);
        Check.same("3: one draw", x.luckOf(0), 6351);
        Check.same("3: 748 % 22 < 18, then 9285 % 2", x.offer(0, 5, 9), 1);
        Check.same("3: load by weight", x.loadOf(0), 22);
        checkValues("3: by weight", x, 0, 3, 5);

        FairHandful y = table(1, 1, 0);
        y.offer(0, 1, 1);
        y.offer(0, 2, 1);
        Check.same("3: 2777 % 2 is as much as weight times room", y.valueAt(0, 0), 1);
    }

    private static void offerRefused() {
        FairHandful x = table(2, 0, 0);
        int[][] wrong = {{-1, 1}, {1000, 1}, {0, 0}, {0, 10}, {Integer.MIN_VALUE, 1}, {0, Integer.MAX_VALUE}};
        for (int[] a : wrong) {
            Check.refused("3: offer of " + a[0] + ", " + a[1], x, NO_ARGUMENT, () -> x.offer(0, a[0], a[1]));
        }
        Check.refused("3: wrong hand and wrong value", x, NO_INDEX, () -> x.offer(1, -1, 0));
    }

    // Promise 4
    private static void offerRow() {
        FairHandful x = table(8, 0, 0);
        Check.same("4: four with room", x.offerRow(0, 998, 8, 4), 4);
        checkValues("4: 0 comes behind 999", x, 0, 998, 999, 0, 1);
        int[] weights = {8, 9, 1, 2};
        for (int place = 0; place < 4; place++) {
            Check.same("4: 1 comes behind 9, " + place, x.weightAt(0, place), weights[place]);
        }
        Check.same("4: load", x.loadOf(0), 20);
        Check.same("4: one", x.offerRow(0, 5, 5, 1), 1);

        FairHandful y = table(2, 0, 0);
        Check.same("4: those that lose their place count too", y.offerRow(0, 10, 1, 5), 3);
        checkValues("4: five for two places", y, 0, 10, 14);
        Check.same("4: the fifth one's weight", y.weightAt(0, 1), 5);
        Check.same("4: luck behind the fifth one", y.luckOf(0), 6351);

        FairHandful z = table(1, 0, 0);
        z.offerRow(0, 999, 9, 200);
        Check.same("4: 200 seen", z.seenBy(0), 200);
        Check.same("4: load of 9, 1 to 9 twenty two times, 1", z.loadOf(0), 9 + 22 * 45 + 1);
    }

    private static void offerRowRefused() {
        FairHandful x = table(2, 0, 0);
        int[][] wrong = {{-1, 1, 1}, {1000, 1, 1}, {0, 0, 1}, {0, 10, 1}, {0, 1, 0}, {0, 1, 201}, {0, 1, -1},
            {0, 1, Integer.MAX_VALUE}};
        for (int[] a : wrong) {
            Check.refused("4: offerRow of " + a[0] + ", " + a[1] + ", " + a[2], x, NO_ARGUMENT,
                () -> x.offerRow(0, a[0], a[1], a[2]));
        }
        Check.refused("4: wrong hand and wrong many", x, NO_INDEX, () -> x.offerRow(1, 0, 1, 0));
    }

    // Promise 5
    private static void mix() {
        FairHandful x = table(4, 0, 0);
        Check.same("5: nothing to mix", x.mix(0), 0);
        x.offer(0, 1, 1);
        Check.same("5: one stone", x.mix(0), 0);
        Check.same("5: one stone draws nothing", x.luckOf(0), 0);
        x.offerRow(0, 2, 2, 3);
        Check.same("5: 2777 % 4, 5294 % 3, 6351 % 2", x.mix(0), 1);
        checkValues("5: mixed", x, 0, 1, 4, 3, 2);
        Check.same("5: three draws", x.luckOf(0), 6351);
        Check.same("5: 748 % 4, 9285 % 3, 8762 % 2", x.mix(0), 3);
        checkValues("5: mixed again", x, 0, 4, 3, 2, 1);
        for (int place = 0; place < 4; place++) {
            Check.same("5: the weight goes along", x.weightAt(0, place), 4 - place);
            Check.same("5: the turn goes along", x.cameAs(0, place), 4 - place);
        }
        Check.same("5: seen stays", x.seenBy(0), 4);

        FairHandful y = table(8, 0, 0);
        offerAll(y, 0, 1, 2, 3);
        y.mix(0);
        checkValues("5: from the last one that holds a stone, 2777 % 3, 5294 % 2", y, 0, 2, 1, 3);
    }

    // Promise 6
    private static void join() {
        FairHandful x = table(2, 0, 0);
        x.addHand(2, 0, 77);
        x.offerRow(0, 10, 1, 2);
        x.offerRow(1, 20, 3, 2);
        Check.same("6: 2777 % 4 < 2, 5294 % 3 is not below 1", x.join(0, 1), 1);
        checkValues("6: joined", x, 0, 10, 20);
        Check.same("6: weight of a joined one", x.weightAt(0, 1), 3);
        Check.same("6: turn of a joined one, as the other counted", x.cameAs(0, 1), 1);
        Check.same("6: seen by both", x.seenBy(0), 4);
        Check.same("6: load of both", x.loadOf(0), 10);
        Check.same("6: luck of the first", x.luckOf(0), 5294);
        Check.same("6: the other holds", x.holds(1), 0);
        Check.same("6: the other has seen", x.seenBy(1), 0);
        Check.same("6: load of the other", x.loadOf(1), 0);
        Check.same("6: luck of the other", x.luckOf(1), 77);
        x.offer(1, 5, 1);
        Check.same("6: the other one counts from 1 again", x.cameAs(1, 0), 1);

        FairHandful y = table(2, 0, 2777);
        y.addHand(2, 0, 0);
        y.offerRow(0, 10, 1, 2);
        y.offerRow(1, 20, 3, 2);
        Check.same("6: 5294 % 4 is as much as 2, 6351 % 3 < 2", y.join(0, 1), 1);
        checkValues("6: the first one's stone on another place", y, 0, 20, 10);
        Check.same("6: its weight", y.weightAt(0, 1), 1);
        Check.same("6: its turn", y.cameAs(0, 1), 1);
    }

    private static void joinWithEmptyHands() {
        FairHandful x = table(3, 0, 0);
        x.addHand(3, 0, 0);
        Check.same("6: both empty", x.join(0, 1), 0);
        Check.same("6: both empty, nothing drawn", x.luckOf(0), 0);
        offerAll(x, 1, 7, 8);
        Check.same("6: empty with two", x.join(0, 1), 2);
        Check.same("6: two draws", x.luckOf(0), 5294);
        checkValues("6: empty with two", x, 0, 7, 8);
        Check.same("6: two with empty", x.join(0, 1), 0);
        Check.same("6: two draws more", x.luckOf(0), 748);
        checkValues("6: two with empty", x, 0, 7, 8);
        Check.same("6: turns stay", x.cameAs(0, 1), 2);
        offerAll(x, 1, 9);
        // 9285 % 3 < 2, 8762 % 2 < 1, then only the other one holds a stone.
        Check.same("6: two with one", x.join(0, 1), 1);
        checkValues("6: two with one", x, 0, 7, 8, 9);
        Check.same("6: the last draw is made too", x.luckOf(0), 1979);
    }

    private static void joinRefused() {
        FairHandful x = table(2, 0, 0);
        x.addHand(2, 1, 0);
        x.addHand(3, 0, 0);
        x.addHand(2, 1, 0);
        offerAll(x, 0, 1, 2);
        Check.refused("6: with itself", x, NO_ARGUMENT, () -> x.join(0, 0));
        Check.refused("6: with itself, by weight", x, NO_ARGUMENT, () -> x.join(1, 1));
        Check.refused("6: other by weight", x, NO_STATE, () -> x.join(0, 1));
        Check.refused("6: first by weight", x, NO_STATE, () -> x.join(1, 0));
        Check.refused("6: both by weight", x, NO_STATE, () -> x.join(1, 3));
        Check.refused("6: more room", x, NO_STATE, () -> x.join(0, 2));
        Check.refused("6: less room", x, NO_STATE, () -> x.join(2, 0));
        Check.refused("6: no such hand", x, NO_INDEX, () -> x.join(4, 0));
        Check.refused("6: no such other", x, NO_INDEX, () -> x.join(0, 4));
        Check.refused("6: no such hands, both the same", x, NO_INDEX, () -> x.join(4, 4));
        Check.refused("6: by weight with no such other", x, NO_INDEX, () -> x.join(1, -1));
    }

    // Promise 7
    private static void setLuck() {
        FairHandful x = table(1, 0, 123);
        Check.same("7: the one before", x.setLuck(0, 9999), 123);
        Check.same("7: from now on", x.luckOf(0), 9999);
        Check.same("7: 9999 before", x.setLuck(0, 0), 9999);
        for (int luck : new int[] {-1, 10000, Integer.MIN_VALUE, Integer.MAX_VALUE}) {
            Check.refused("7: luck " + luck, x, NO_ARGUMENT, () -> x.setLuck(0, luck));
        }
        Check.refused("7: wrong hand and wrong luck", x, NO_INDEX, () -> x.setLuck(1, -1));
    }

    // Promise 8
    private static void hands() {
        FairHandful x = new FairHandful();
        for (int number = 0; number < 5; number++) {
            Check.same("8: hands()", x.hands(), number);
            x.addHand(1, 0, 0);
        }
        Check.same("8: hands()", x.hands(), 5);
    }

    // Promises 9 to 13
    private static void counts() {
        FairHandful x = table(3, 0, 7);
        x.addHand(8, 1, 8);
        x.offerRow(0, 1, 1, 2);
        Check.same("9: holds with room left", x.holds(0), 2);
        x.offerRow(0, 1, 5, 10);
        Check.same("9: holds when full", x.holds(0), 3);
        Check.same("9: holds nothing", x.holds(1), 0);
        Check.same("10: roomOf", x.roomOf(0), 3);
        Check.same("10: roomOf the other", x.roomOf(1), 8);
        Check.same("11: seenBy", x.seenBy(0), 12);
        Check.same("12: loadOf", x.loadOf(0), 1 + 2 + 5 + 6 + 7 + 8 + 9 + 1 + 2 + 3 + 4 + 5);
        Check.same("13: luckOf behind nine draws", x.luckOf(0), table(1, 0, 7).luckIn(0, 9));
        Check.same("13: luckOf the other", x.luckOf(1), 8);
    }

    // Promises 14 to 16
    private static void stones() {
        FairHandful x = table(4, 0, 0);
        x.offer(0, 999, 9);
        x.offer(0, 0, 1);
        Check.same("14: valueAt 0", x.valueAt(0, 0), 999);
        Check.same("14: valueAt 1", x.valueAt(0, 1), 0);
        Check.same("15: weightAt 0", x.weightAt(0, 0), 9);
        Check.same("15: weightAt 1", x.weightAt(0, 1), 1);
        Check.same("16: cameAs 0", x.cameAs(0, 0), 1);
        Check.same("16: cameAs 1", x.cameAs(0, 1), 2);
        for (int place : new int[] {-1, 2, 3, 4, 8, Integer.MIN_VALUE, Integer.MAX_VALUE}) {
            Check.refused("14: valueAt " + place, x, NO_INDEX, () -> x.valueAt(0, place));
            Check.refused("15: weightAt " + place, x, NO_INDEX, () -> x.weightAt(0, place));
            Check.refused("16: cameAs " + place, x, NO_INDEX, () -> x.cameAs(0, place));
            Check.refused("20: rankOf " + place, x, NO_INDEX, () -> x.rankOf(0, place));
        }
        x.addHand(4, 0, 0);
        x.join(1, 0);
        Check.refused("14: valueAt 0 of a hand that has been joined to another", x, NO_INDEX, () -> x.valueAt(0, 0));
    }

    // Promise 17
    private static void placeOf() {
        FairHandful x = table(4, 0, 0);
        Check.same("17: holds nothing", x.placeOf(0, 0), -1);
        offerAll(x, 0, 5, 9, 9);
        Check.same("17: first place", x.placeOf(0, 5), 0);
        Check.same("17: first of two", x.placeOf(0, 9), 1);
        Check.same("17: without one", x.placeOf(0, 6), -1);
        Check.same("17: 0 stands on no place", x.placeOf(0, 0), -1);
        Check.same("17: no stone's value", x.placeOf(0, 1000), -1);
        Check.same("17: no stone's value", x.placeOf(0, -1), -1);
        x.addHand(4, 0, 0);
        x.join(1, 0);
        Check.same("17: gone with joining", x.placeOf(0, 5), -1);
    }

    // Promises 18 and 30
    private static void sumAndMean() {
        FairHandful x = table(8, 0, 0);
        Check.same("18: nothing", x.sum(0), 0);
        Check.sameDouble("30: nothing", x.meanValue(0), 0);
        offerAll(x, 0, 1);
        Check.same("18: one", x.sum(0), 1);
        Check.sameDouble("30: one", x.meanValue(0), 1);
        offerAll(x, 0, 2, 2);
        Check.same("18: three", x.sum(0), 5);
        Check.sameDouble("30: three", x.meanValue(0), 5.0 / 3.0);
        offerAll(x, 0, 0);
        Check.sameDouble("30: with 0", x.meanValue(0), 1.25);
        offerAll(x, 0, 999, 999, 999, 999);
        Check.same("18: eight", x.sum(0), 4001);
        Check.sameDouble("30: eight", x.meanValue(0), 500.125);
        x.addHand(8, 0, 0);
        x.join(1, 0);
        Check.same("18: gone with joining", x.sum(0), 0);
        Check.sameDouble("30: gone with joining", x.meanValue(0), 0);
    }

    // Promises 19 to 21
    private static void order() {
        FairHandful x = table(8, 0, 0);
        Check.same("19: nothing", x.lowest(0), -1);
        Check.same("21: nothing", x.middle(0), -1);
        offerAll(x, 0, 7);
        Check.same("19: one", x.lowest(0), 0);
        Check.same("21: one", x.middle(0), 7);
        offerAll(x, 0, 3);
        Check.same("21: two, the upper one", x.middle(0), 7);
        offerAll(x, 0, 9, 3, 7);
        Check.same("19: first of several", x.lowest(0), 1);
        int[] ranks = {2, 0, 4, 1, 3};
        for (int place = 0; place < 5; place++) {
            Check.same("20: rankOf " + place, x.rankOf(0, place), ranks[place]);
        }
        Check.same("21: five", x.middle(0), 7);
        offerAll(x, 0, 8);
        Check.same("21: six", x.middle(0), 7);
        offerAll(x, 0, 8, 999);
        Check.same("21: eight", x.middle(0), 8);
        offerAll(x, 0, 1);
        Check.refused("20: the place behind the last one", x, NO_INDEX, () -> x.rankOf(0, 8));
    }

    // Promise 22
    private static void shared() {
        FairHandful x = table(8, 0, 0);
        x.addHand(3, 1, 0);
        x.addHand(3, 1, 0);
        offerAll(x, 0, 5, 5, 6, 7, 5, 9);
        offerAll(x, 1, 6, 5, 6);
        Check.same("22: each as often as the one that holds it less often", x.shared(0, 1), 2);
        Check.same("22: the other way round", x.shared(1, 0), 2);
        offerAll(x, 2, 5, 5, 0);
        Check.same("22: twice the same", x.shared(0, 2), 2);
        Check.same("22: the same hand", x.shared(0, 0), 6);
        Check.same("22: one in common", x.shared(1, 2), 1);
        x.addHand(1, 0, 0);
        Check.same("22: with nothing", x.shared(0, 3), 0);
        Check.same("22: nothing with nothing", x.shared(3, 3), 0);
        Check.refused("22: no such other", x, NO_INDEX, () -> x.shared(0, 4));
        Check.refused("22: no such hand", x, NO_INDEX, () -> x.shared(-1, 0));
    }

    // Promise 23
    private static void luckIn() {
        FairHandful x = table(1, 0, 0);
        int[] lucks = {0, 2777, 5294, 6351, 748, 9285, 8762, 1979};
        for (int draws = 0; draws < lucks.length; draws++) {
            Check.same("23: luckIn " + draws, x.luckIn(0, draws), lucks[draws]);
        }
        int luck = 0;
        for (int draw = 0; draw < 1000; draw++) {
            luck = nextLuck(luck);
        }
        Check.same("23: luckIn 1000", x.luckIn(0, 1000), luck);
        Check.same("23: nothing is changed", x.luckOf(0), 0);
        for (int draws : new int[] {-1, 1001, Integer.MIN_VALUE, Integer.MAX_VALUE}) {
            Check.refused("23: luckIn " + draws, x, NO_ARGUMENT, () -> x.luckIn(0, draws));
        }
        Check.refused("23: wrong hand and wrong draws", x, NO_INDEX, () -> x.luckIn(1, -1));
        x.setLuck(0, 9999);
        Check.same("23: behind 9999", x.luckIn(0, 1), (9999 * 4621 + 2777) % 10000);
    }

    // Promise 24
    private static void drawsUntil() {
        FairHandful x = table(1, 0, 0);
        int[] drawn = {7, 4, 1, 8, 5, 2, 9};
        for (int draw = 1; draw <= drawn.length; draw++) {
            Check.same("24: below 10, " + drawn[draw - 1], x.drawsUntil(0, 10, drawn[draw - 1]), draw);
        }
        Check.same("24: below 1", x.drawsUntil(0, 1, 0), 1);
        Check.same("24: below 100, 79", x.drawsUntil(0, 100, 79), 7);
        Check.same("24: nothing is changed", x.luckOf(0), 0);
        int[][] wrong = {{0, 0}, {101, 0}, {-1, -2}, {1, 1}, {1, -1}, {5, 5}, {100, 100}, {Integer.MIN_VALUE, 0},
            {Integer.MAX_VALUE, 0}, {10, Integer.MAX_VALUE}};
        for (int[] a : wrong) {
            Check.refused("24: below " + a[0] + ", " + a[1], x, NO_ARGUMENT, () -> x.drawsUntil(0, a[0], a[1]));
        }
        Check.refused("24: wrong hand and wrong below", x, NO_INDEX, () -> x.drawsUntil(1, 0, 0));
    }

    private static int firstDraw(int luck, int below, int drawn) {
        int now = luck;
        for (int draw = 1; draw <= 10000; draw++) {
            now = nextLuck(now);
            if (now % below == drawn) {
                return draw;
            }
        }
        return -1;
    }

    private static void drawsUntilAtItsEnd() {
        boolean last = false;
        boolean behind = false;
        for (int luck = 0; luck < 10000 && !(last && behind); luck++) {
            for (int drawn = 0; drawn < 97; drawn++) {
                int first = firstDraw(luck, 97, drawn);
                if (first == 500 && !last) {
                    last = true;
                    Check.same("24: the 500th draw", table(1, 0, luck).drawsUntil(0, 97, drawn), 500);
                }
                if (first == 501 && !behind) {
                    behind = true;
                    Check.same("24: the 501st draw", table(1, 0, luck).drawsUntil(0, 97, drawn), -1);
                }
            }
        }
        Check.that("24: no luck was found for the 500th and the 501st draw", last && behind);
    }

    // Promise 25
    private static void wouldTake() {
        FairHandful x = table(2, 0, 0);
        Check.same("25: into an empty hand", x.wouldTake(0, 1), 0);
        offerAll(x, 0, 1, 2);
        Check.same("25: 2777 % 3", x.wouldTake(0, 9), -1);
        Check.same("25: nothing is changed", x.luckOf(0), 0);
        Check.same("25: nothing is seen", x.seenBy(0), 2);
        Check.same("25: nothing is loaded", x.loadOf(0), 2);
        offerAll(x, 0, 3, 4);
        Check.same("25: 6351 % 5", x.wouldTake(0, 1), 1);
        checkValues("25: nothing is taken", x, 0, 1, 2);

        FairHandful y = table(2, 1, 0);
        y.offerRow(0, 1, 3, 2);
        Check.same("25: by weight, 2777 % 12 < 10, 5294 % 2", y.wouldTake(0, 5), 0);
        Check.same("25: by weight, 2777 % 8 < 2, 5294 % 2", y.wouldTake(0, 1), 0);
        Check.same("25: by weight, 2777 % 9 is not below 4", y.wouldTake(0, 2), -1);
        for (int weight : new int[] {0, 10, -1, Integer.MIN_VALUE, Integer.MAX_VALUE}) {
            Check.refused("25: weight " + weight, x, NO_ARGUMENT, () -> x.wouldTake(0, weight));
        }
        Check.refused("25: wrong hand and wrong weight", x, NO_INDEX, () -> x.wouldTake(1, 0));
    }

    // Promise 26
    private static void wouldStay() {
        FairHandful x = table(2, 0, 0);
        Check.same("26: holds nothing", x.wouldStay(0, 200), 0);
        offerAll(x, 0, 1, 2);
        Check.same("26: one, 2777 % 3", x.wouldStay(0, 1), 2);
        Check.same("26: two, 5294 % 4", x.wouldStay(0, 2), 2);
        Check.same("26: three, 6351 % 5", x.wouldStay(0, 3), 1);
        Check.same("26: nothing is changed", x.luckOf(0), 0);
        Check.same("26: nothing is seen", x.seenBy(0), 2);
        checkValues("26: nothing is taken", x, 0, 1, 2);

        FairHandful y = table(8, 0, 0);
        offerAll(y, 0, 1, 2, 3);
        Check.same("26: with room for all", y.wouldStay(0, 5), 3);

        // The two stones have been counted as 1 and 2 twice; the hand has seen four.
        FairHandful z = table(8, 0, 0);
        z.addHand(8, 0, 0);
        offerAll(z, 0, 1, 2);
        offerAll(z, 1, 3, 4);
        z.join(0, 1);
        Check.same("26: joined ones count as held", z.wouldStay(0, 4), 4);

        for (int many : new int[] {0, 201, -1, Integer.MIN_VALUE, Integer.MAX_VALUE}) {
            Check.refused("26: many " + many, x, NO_ARGUMENT, () -> x.wouldStay(0, many));
        }
        Check.refused("26: wrong hand and wrong many", x, NO_INDEX, () -> x.wouldStay(1, 0));

        // By weight, of the weight 1 each: 2777 % 3 is not below 1, 5294 % 4 neither, 6351 % 5 neither,
        // 748 % 6 neither, 9285 % 7 neither, 8762 % 8 neither; with a load of 2 to begin with.
        FairHandful w = table(1, 1, 0);
        w.offer(0, 5, 2);
        Check.same("26: by weight", w.wouldStay(0, 6), 1);
    }

    // Promise 27
    private static void untilTaken() {
        FairHandful x = table(2, 0, 0);
        Check.same("27: with room", x.untilTaken(0), 1);
        offerAll(x, 0, 1, 2);
        Check.same("27: 2777 % 3, 5294 % 4, 6351 % 5", x.untilTaken(0), 3);
        Check.same("27: nothing is changed", x.luckOf(0), 0);
        Check.same("27: nothing is seen", x.seenBy(0), 2);
        checkValues("27: nothing is taken", x, 0, 1, 2);

        FairHandful y = table(1, 1, 0);
        y.offer(0, 1, 7);
        Check.same("27: by weight, 2777 % 8, 5294 % 9, 6351 % 10, 748 % 11", y.untilTaken(0), 4);
    }

    /** Of a fair hand with room for one that has seen so many: when the next one gets the place. */
    private static int firstTaken(int luck, int seen) {
        int now = luck;
        for (int came = 1; came <= 10000; came++) {
            now = nextLuck(now);
            if (now % (seen + came) == 0) {
                return came;
            }
        }
        return -1;
    }

    private static void untilTakenAtItsEnd() {
        boolean last = false;
        boolean behind = false;
        for (int luck = 0; luck < 10000; luck++) {
            for (int seen = 40; seen < 60; seen++) {
                int first = firstTaken(luck, seen);
                if (first == 200 && !last || first == 201 && !behind) {
                    FairHandful x = table(1, 0, 0);
                    x.offerRow(0, 0, 1, seen);
                    x.setLuck(0, luck);
                    Check.same("27: taken as number " + first, x.untilTaken(0), first == 200 ? 200 : -1);
                    last |= first == 200;
                    behind |= first == 201;
                }
            }
        }
        Check.that("27: no luck was found for 200 and 201", last && behind);
    }

    // Promise 28
    private static void weightWanted() {
        FairHandful x = table(2, 0, 0);
        Check.same("28: with room", x.weightWanted(0), 1);
        offerAll(x, 0, 1, 2);
        Check.same("28: fair, 2777 % 3, whatever the weight", x.weightWanted(0), -1);
        offerAll(x, 0, 3, 4);
        Check.same("28: fair, 6351 % 5", x.weightWanted(0), 1);

        // 2777 % 10 is not below 2, % 11 not below 4, but % 12 is below 6.
        FairHandful y = table(2, 1, 0);
        y.offer(0, 1, 4);
        y.offer(0, 2, 5);
        Check.same("28: by weight", y.weightWanted(0), 3);
        Check.same("28: nothing is changed", y.luckOf(0), 0);

        // 2777 % 33 is below 9, but % 25 to % 32 not below 1 to 8.
        FairHandful z = table(1, 1, 0);
        z.offer(0, 1, 9);
        z.offer(0, 2, 9);
        z.offer(0, 3, 6);
        z.setLuck(0, 0);
        Check.same("28: the weight 9", z.weightWanted(0), 9);

        // 2777 % 24 to % 32 are not below 1 to 9.
        FairHandful w = table(1, 1, 0);
        w.offer(0, 1, 9);
        w.offer(0, 2, 9);
        w.offer(0, 3, 5);
        w.setLuck(0, 0);
        Check.same("28: by weight, none of these", w.weightWanted(0), -1);
        Check.same("28: nothing is loaded", y.loadOf(0), 9);
    }

    // Promise 29
    private static void wouldJoin() {
        FairHandful x = table(2, 0, 0);
        x.addHand(2, 0, 77);
        x.addHand(2, 1, 0);
        x.addHand(3, 0, 0);
        x.offerRow(0, 10, 1, 2);
        x.offerRow(1, 20, 3, 2);
        Check.same("29: as join()", x.wouldJoin(0, 1), 1);
        Check.same("29: with itself", x.wouldJoin(0, 0), -1);
        Check.same("29: by weight with itself", x.wouldJoin(2, 2), -1);
        Check.same("29: other by weight", x.wouldJoin(0, 2), -1);
        Check.same("29: first by weight", x.wouldJoin(2, 0), -1);
        Check.same("29: other room", x.wouldJoin(0, 3), -1);
        checkValues("29: nothing is taken", x, 0, 10, 11);
        checkValues("29: nothing is given", x, 1, 20, 21);
        Check.same("29: nothing is changed", x.luckOf(0), 0);
        Check.same("29: nothing is seen", x.seenBy(0), 2);
        Check.refused("29: no such other", x, NO_INDEX, () -> x.wouldJoin(0, 4));
        Check.refused("29: no such hand", x, NO_INDEX, () -> x.wouldJoin(-1, 0));
        Check.same("29: then join()", x.join(0, 1), 1);
    }

    // Promise 31
    private static void digest() {
        Check.same("31: without hands", new FairHandful().digest(), 2371L * 31);
        FairHandful x = table(2, 0, 0);
        // Its answers, in the order of the document; seven draws lead from 0 to 1979.
        long due = digestOf(2371, 1, 0, 2, 0, 0, 0, 0, -1, -1, 1979, 0, 0, 1, 1, 0, -1);
        Check.same("31: one empty hand", x.digest(), due);
        x.addHand(2, 0, 0);
        x.offerRow(0, 10, 1, 2);
        x.offer(1, 11, 3);
        due = digestOf(2371, 2);
        due = digestOf(due, 2, 2, 2, 3, 0, 21, 0, 11, 1979, -1, x.wouldStay(0, 20), 3, -1);
        due = digestOf(due, 10, 1, 1, 0, 11, 2, 2, 1);
        due = digestOf(due, 2, -1, 1, x.wouldJoin(0, 1));
        due = digestOf(due, 1, 2, 1, 3, 0, 11, 0, 11, 1979, 1, x.wouldStay(1, 20), 1, 1);
        due = digestOf(due, 11, 3, 1, 0);
        due = digestOf(due, 1, x.wouldJoin(1, 0), 1, -1);
        Check.same("31: two hands", x.digest(), due);
        Check.same("31: nothing is changed", x.digest(), due);

        FairHandful y = table(2, 1, 0);
        y.offer(0, 9, 3);
        y.offer(0, 8, 4);
        due = digestOf(2371, 1, 2, 2, 2, 7, 0, 17, 1, 9, 1979, 0, y.wouldStay(0, 20), 1, 1);
        due = digestOf(due, 9, 3, 1, 1, 8, 4, 2, 0, 2, -1);
        Check.same("31: by weight", y.digest(), due);
    }

    private static long digestOf(long before, int... answers) {
        long d = before;
        for (int answer : answers) {
            d = d * 31 + answer;
        }
        return d;
    }

    private static void noSuchHand() {
        for (int hand : NO_HANDS) {
            // A new one each time: nothing is promised behind an object's 512th call.
            FairHandful x = table(2, 0, 0);
            Check.refused("3: hand " + hand, x, NO_INDEX, () -> x.offer(hand, 0, 1));
            Check.refused("4: hand " + hand, x, NO_INDEX, () -> x.offerRow(hand, 0, 1, 1));
            Check.refused("5: hand " + hand, x, NO_INDEX, () -> x.mix(hand));
            Check.refused("6: hand " + hand, x, NO_INDEX, () -> x.join(hand, 0));
            Check.refused("6: other " + hand, x, NO_INDEX, () -> x.join(0, hand));
            Check.refused("7: hand " + hand, x, NO_INDEX, () -> x.setLuck(hand, 0));
            Check.refused("9: hand " + hand, x, NO_INDEX, () -> x.holds(hand));
            Check.refused("10: hand " + hand, x, NO_INDEX, () -> x.roomOf(hand));
            Check.refused("11: hand " + hand, x, NO_INDEX, () -> x.seenBy(hand));
            Check.refused("12: hand " + hand, x, NO_INDEX, () -> x.loadOf(hand));
            Check.refused("13: hand " + hand, x, NO_INDEX, () -> x.luckOf(hand));
            Check.refused("14: hand " + hand, x, NO_INDEX, () -> x.valueAt(hand, 0));
            Check.refused("15: hand " + hand, x, NO_INDEX, () -> x.weightAt(hand, 0));
            Check.refused("16: hand " + hand, x, NO_INDEX, () -> x.cameAs(hand, 0));
            Check.refused("17: hand " + hand, x, NO_INDEX, () -> x.placeOf(hand, 0));
            Check.refused("18: hand " + hand, x, NO_INDEX, () -> x.sum(hand));
            Check.refused("19: hand " + hand, x, NO_INDEX, () -> x.lowest(hand));
            Check.refused("20: hand " + hand, x, NO_INDEX, () -> x.rankOf(hand, 0));
            Check.refused("21: hand " + hand, x, NO_INDEX, () -> x.middle(hand));
            Check.refused("22: hand " + hand, x, NO_INDEX, () -> x.shared(hand, 0));
            Check.refused("22: other " + hand, x, NO_INDEX, () -> x.shared(0, hand));
            Check.refused("23: hand " + hand, x, NO_INDEX, () -> x.luckIn(hand, 0));
            Check.refused("24: hand " + hand, x, NO_INDEX, () -> x.drawsUntil(hand, 1, 0));
            Check.refused("25: hand " + hand, x, NO_INDEX, () -> x.wouldTake(hand, 1));
            Check.refused("26: hand " + hand, x, NO_INDEX, () -> x.wouldStay(hand, 1));
            Check.refused("27: hand " + hand, x, NO_INDEX, () -> x.untilTaken(hand));
            Check.refused("28: hand " + hand, x, NO_INDEX, () -> x.weightWanted(hand));
            Check.refused("29: hand " + hand, x, NO_INDEX, () -> x.wouldJoin(hand, 0));
            Check.refused("29: other " + hand, x, NO_INDEX, () -> x.wouldJoin(0, hand));
            Check.refused("30: hand " + hand, x, NO_INDEX, () -> x.meanValue(hand));
        }
    }
}
