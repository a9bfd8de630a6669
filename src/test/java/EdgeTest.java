import java.math.BigInteger;
import java.util.Arrays;

/**
 * The sentences of the document that name a limit, in the document's order: what is answered at the limit
 * and on both sides of it. What is refused there is in RefusalTest.
 */
public final class EdgeTest {
    public static void main(String[] args) {
        fiveHundredAndTwelveCalls();
        nextLuckOfEachLuck();
        roomFromOneToEight();
        fairTakesBelowTheRoom();
        weightTakesBelowWeightTimesRoom();
        weightDrawsInTheRoomOfOne();
        joinTakesBelowWhatTheFirstOneSaw();
        joinStopsAtTheRoom();
        joinOfEmptyHands();
        joinAgain();
        offerAtItsLimits();
        rowGoesRound();
        rowIsAsManyOffers();
        mixOfSoManyStones();
        mixWithoutSwaps();
        setLuckAtItsLimits();
        emptyHand();
        fullHand();
        handThatSawMoreThanItHolds();
        cameAsBehindManyStones();
        placeOfAtItsLimits();
        lowestOfEquals();
        rankOfEquals();
        middleOfSoManyStones();
        sharedAsOftenAsTheLess();
        luckInAtItsLimits();
        drawsUntilAtItsLimits();
        wouldTakeAsOffered();
        wouldStayAtItsLimits();
        wouldStayWithOneMore();
        untilTakenAtItsEnd();
        weightWantedOfEachWeight();
        wouldJoinAsJoined();
        meanIsNotCut();
        digestWrapsAround();
        Check.end();
    }

    private static FairHandful table(int room, int way, int luck) {
        FairHandful x = new FairHandful();
        x.addHand(room, way, luck);
        return x;
    }

    private static int nextLuck(int luck) {
        return (luck * 4621 + 2777) % 10000;
    }

    /** A luck from which this is drawn below that; -1 if there is none. */
    private static int luckFor(int drawn, int below) {
        for (int luck = 0; luck < 10000; luck++) {
            if (nextLuck(luck) % below == drawn) {
                return luck;
            }
        }
        return -1;
    }

    private static int[] held(FairHandful x, int hand) {
        int[] values = new int[x.holds(hand)];
        for (int place = 0; place < values.length; place++) {
            values[place] = x.valueAt(hand, place);
        }
        return values;
    }

    private static void sameValues(String what, FairHandful x, int hand, int... due) {
        String got = Arrays.toString(held(x, hand));
        Check.that(what + ": holds " + got, got.equals(Arrays.toString(due)));
    }

    // "An object is used for at most 512 calls"
    private static void fiveHundredAndTwelveCalls() {
        FairHandful x = table(8, 0, 0);
        int load = 0;
        for (int call = 2; call <= 510; call++) {
            x.offerRow(0, 0, 9, 200);
            load += 9 + 22 * 45 + 1;
        }
        Check.same("511th call: loadOf", x.loadOf(0), load);
        Check.same("512th call: seenBy", x.seenBy(0), 509 * 200);

        FairHandful y = table(2, 1, 0);
        for (int call = 2; call <= 511; call++) {
            y.holds(0);
        }
        Check.same("512th call: offer", y.offer(0, 1, 1), 0);
    }

    // "its luck becomes (luck * 4621 + 2777) % 10000 first; what is drawn is that luck, the rest by the number"
    private static void nextLuckOfEachLuck() {
        FairHandful x = null;
        for (int luck = 0; luck < 10000; luck++) {
            if (luck % 100 == 0) {
                x = table(1, 0, 0);
            }
            x.setLuck(0, luck);
            int next = BigInteger.valueOf(luck).multiply(BigInteger.valueOf(4621)).add(BigInteger.valueOf(2777))
                .mod(BigInteger.valueOf(10000)).intValue();
            Check.same("luck behind " + luck, x.luckIn(0, 1), next);
            Check.same("first draw below 100 behind " + luck, x.drawsUntil(0, 100, next % 100), 1);
        }
    }

    // "each has room for 1 to 8 stones"; "If there is room, it gets the next place, and nothing is drawn."
    private static void roomFromOneToEight() {
        for (int room = 1; room <= 8; room++) {
            for (int way = 0; way <= 1; way++) {
                FairHandful x = table(room, way, 4321);
                for (int place = 0; place < room; place++) {
                    Check.same("wouldTake with room", x.wouldTake(0, 1), place);
                    Check.same("the next place", x.offer(0, place, 9), place);
                    Check.same("holds", x.holds(0), place + 1);
                }
                Check.same("nothing is drawn with room " + room, x.luckOf(0), 4321);
                x.offer(0, 999, 1);
                Check.that("it is drawn without room " + room, x.luckOf(0) != 4321);
                Check.same("holds no more than its room", x.holds(0), room);
                Check.same("seen, with a place or not", x.seenBy(0), room + 1);
                Check.same("loaded, with a place or not", x.loadOf(0), room * 9 + 1);
            }
        }
    }

    // "below how many were seen is drawn; if that is less than the room, the stone takes the place with this number"
    private static void fairTakesBelowTheRoom() {
        for (int room = 1; room <= 8; room++) {
            for (int seen = room; seen < room + 4; seen++) {
                for (int drawn = 0; drawn <= seen; drawn++) {
                    FairHandful x = table(room, 0, 0);
                    for (int came = 0; came < seen; came++) {
                        x.offer(0, came, 1);
                    }
                    int[] due = held(x, 0);
                    int luck = luckFor(drawn, seen + 1);
                    x.setLuck(0, luck);
                    int place = drawn < room ? drawn : -1;
                    String what = "fair, room " + room + ", " + drawn + " drawn of " + (seen + 1);
                    Check.same(what + ": weightWanted", x.weightWanted(0), place < 0 ? -1 : 1);
                    Check.same(what + ": wouldStay", x.wouldStay(0, 1), place < 0 ? room : room - 1);
                    Check.same(what, x.offer(0, 500, 9), place);
                    Check.same(what + ": one draw", x.luckOf(0), nextLuck(luck));
                    if (place >= 0) {
                        due[place] = 500;
                        Check.same(what + ": its weight", x.weightAt(0, place), 9);
                        Check.same(what + ": its turn", x.cameAs(0, place), seen + 1);
                    }
                    sameValues(what, x, 0, due);
                }
            }
        }
    }

    // "below the load is drawn; if that is less than the weight times the room, below the room is drawn, and the
    // stone takes the place with this number"
    private static void weightTakesBelowWeightTimesRoom() {
        for (int room = 1; room <= 8; room++) {
            for (int weight = 1; weight <= 9; weight++) {
                for (int others = 1; others <= 9; others += 4) {
                    int load = room * others + weight;
                    int limit = weight * room;
                    for (int drawn : new int[] {0, limit - 1, limit, limit + 1, load - 1}) {
                        if (drawn < load) {
                            weightDraws(room, weight, others, drawn);
                        }
                    }
                }
            }
        }
    }

    private static void weightDraws(int room, int weight, int others, int drawn) {
        FairHandful x = table(room, 1, 0);
        for (int place = 0; place < room; place++) {
            x.offer(0, place, others);
        }
        int[] due = held(x, 0);
        int luck = luckFor(drawn, room * others + weight);
        x.setLuck(0, luck);
        boolean takes = drawn < weight * room;
        int first = nextLuck(luck);
        int place = takes ? nextLuck(first) % room : -1;
        String what = "by weight " + weight + ", room " + room + ", " + drawn + " drawn of " + (room * others + weight);
        Check.same(what + ": wouldTake", x.wouldTake(0, weight), place);
        Check.same(what, x.offer(0, 500, weight), place);
        Check.same(what + ": draws", x.luckOf(0), takes ? nextLuck(first) : first);
        Check.same(what + ": load", x.loadOf(0), room * others + weight);
        if (takes) {
            due[place] = 500;
        }
        sameValues(what, x, 0, due);
    }

    private static void weightDrawsInTheRoomOfOne() {
        FairHandful x = table(1, 1, 0);
        x.offer(0, 1, 1);
        int luck = luckFor(0, 2);
        x.setLuck(0, luck);
        Check.same("the only place", x.offer(0, 2, 1), 0);
        Check.same("below 1 is drawn too", x.luckOf(0), nextLuck(nextLuck(luck)));
    }

    private static FairHandful two(int room, int seen, int otherSeen) {
        FairHandful x = table(room, 0, 0);
        x.addHand(room, 0, 0);
        for (int came = 1; came <= seen; came++) {
            x.offer(0, 100 + came, 2);
        }
        for (int came = 1; came <= otherSeen; came++) {
            x.offer(1, 200 + came, 3);
        }
        x.setLuck(1, 77);
        return x;
    }

    // "If what is drawn is less than how many the first one has seen less those that were taken from it .."
    private static void joinTakesBelowWhatTheFirstOneSaw() {
        for (int room = 1; room <= 4; room++) {
            for (int seen = 0; seen <= room + 3; seen++) {
                for (int other = 0; other <= room + 3; other++) {
                    for (int drawn = 0; drawn < seen + other; drawn++) {
                        joinDraws(room, seen, other, drawn);
                    }
                }
            }
        }
    }

    /** Follows the document's words, place by place, from a luck that leads to this first draw. */
    private static void joinDraws(int room, int seen, int other, int drawn) {
        FairHandful x = two(room, seen, other);
        int luck = luckFor(drawn, seen + other);
        x.setLuck(0, luck);
        int[] firsts = held(x, 0);
        int[] others = held(x, 1);
        int[] due = new int[Math.min(room, firsts.length + others.length)];
        int fromFirst = 0;
        int fromOther = 0;
        for (int place = 0; place < due.length; place++) {
            luck = nextLuck(luck);
            boolean less = luck % (seen + other - place) < seen - fromFirst;
            if (less && fromFirst < firsts.length || fromOther == others.length) {
                due[place] = firsts[fromFirst++];
            } else {
                due[place] = others[fromOther++];
            }
        }
        String what = "join, room " + room + ", seen " + seen + " and " + other + ", " + drawn + " drawn";
        if (due.length > 0 && firsts.length > 0 && others.length > 0) {
            Check.that(what + ": the first place", due[0] == (drawn < seen ? firsts[0] : others[0]));
        }
        Check.same(what + ": wouldJoin", x.wouldJoin(0, 1), fromOther);
        Check.same(what, x.join(0, 1), fromOther);
        sameValues(what, x, 0, due);
        for (int place = 0; place < due.length; place++) {
            Check.same(what + ": weight", x.weightAt(0, place), due[place] / 100 + 1);
            Check.same(what + ": turn, as it was counted", x.cameAs(0, place), due[place] % 100);
        }
        Check.same(what + ": luck", x.luckOf(0), luck);
        Check.same(what + ": seen", x.seenBy(0), seen + other);
        Check.same(what + ": load", x.loadOf(0), seen * 2 + other * 3);
        Check.same(what + ": other holds", x.holds(1), 0);
        Check.same(what + ": other has seen", x.seenBy(1), 0);
        Check.same(what + ": load of the other", x.loadOf(1), 0);
        Check.same(what + ": luck of the other", x.luckOf(1), 77);
        Check.same(what + ": room of the other", x.roomOf(1), room);
    }

    // "up to the room", "as long as one of both still holds a stone"
    private static void joinStopsAtTheRoom() {
        int[][] heldAndDrawn = {{4, 4, 8}, {4, 5, 8}, {3, 4, 7}, {0, 8, 8}, {8, 0, 8}, {8, 8, 8}, {1, 0, 1}, {0, 1, 1}};
        for (int[] a : heldAndDrawn) {
            FairHandful x = two(8, a[0], a[1]);
            int due = x.luckIn(0, a[2]);
            x.join(0, 1);
            Check.same("join of " + a[0] + " and " + a[1] + ": holds", x.holds(0), a[2]);
            Check.same("join of " + a[0] + " and " + a[1] + ": so many draws", x.luckOf(0), due);
        }
    }

    private static void joinOfEmptyHands() {
        FairHandful x = two(8, 0, 0);
        x.setLuck(0, 9999);
        Check.same("both empty: wouldJoin", x.wouldJoin(0, 1), 0);
        Check.same("both empty", x.join(0, 1), 0);
        Check.same("both empty: nothing drawn", x.luckOf(0), 9999);
        Check.same("both empty: seen", x.seenBy(0), 0);

        FairHandful y = two(8, 0, 8);
        Check.same("into an empty one: all of the other", y.join(0, 1), 8);
        sameValues("into an empty one", y, 0, 201, 202, 203, 204, 205, 206, 207, 208);
        FairHandful z = two(8, 8, 0);
        Check.same("with an empty one: none of it", z.join(0, 1), 0);
        sameValues("with an empty one", z, 0, 101, 102, 103, 104, 105, 106, 107, 108);
    }

    // "the other one holds and has seen nothing": it starts anew, and can be joined once more.
    private static void joinAgain() {
        FairHandful x = two(2, 5, 7);
        x.join(0, 1);
        Check.same("the other one behind it: untilTaken", x.untilTaken(1), 1);
        Check.same("the other one behind it: lowest", x.lowest(1), -1);
        Check.same("the other one behind it: middle", x.middle(1), -1);
        Check.same("the other one behind it: sum", x.sum(1), 0);
        Check.same("the other one behind it: placeOf", x.placeOf(1, 201), -1);
        Check.same("the other one behind it: shared", x.shared(0, 1), 0);
        Check.same("the other one gets a stone", x.offer(1, 300, 4), 0);
        Check.same("it counts from 1", x.cameAs(1, 0), 1);
        Check.same("its load", x.loadOf(1), 4);
        x.join(1, 0);
        Check.same("joined the other way: seen", x.seenBy(1), 13);
        Check.same("joined the other way: load", x.loadOf(1), 5 * 2 + 7 * 3 + 4);
        Check.same("joined the other way: holds", x.holds(0), 0);
        Check.same("the next one is counted behind both", x.wouldStay(1, 1) + (x.wouldTake(1, 1) < 0 ? 0 : 1), 2);
    }

    // "a value, 0 to 999, and a weight, 1 to 9"
    private static void offerAtItsLimits() {
        FairHandful x = table(4, 0, 0);
        x.offer(0, 0, 1);
        x.offer(0, 999, 9);
        x.offer(0, 0, 9);
        x.offer(0, 999, 1);
        sameValues("0 and 999", x, 0, 0, 999, 0, 999);
        int[] weights = {1, 9, 9, 1};
        for (int place = 0; place < 4; place++) {
            Check.same("1 and 9 on place " + place, x.weightAt(0, place), weights[place]);
        }
    }

    // "with values one greater each time, the rest by 1000, and weights one greater each time, 1 behind 9"
    private static void rowGoesRound() {
        for (int value : new int[] {0, 1, 990, 991, 992, 993, 994, 998, 999}) {
            for (int weight = 1; weight <= 9; weight++) {
                FairHandful x = table(8, 1, 0);
                Check.same("eight with room", x.offerRow(0, value, weight, 8), 8);
                for (int place = 0; place < 8; place++) {
                    int due = value + place >= 1000 ? value + place - 1000 : value + place;
                    Check.same("value of a row from " + value + " on " + place, x.valueAt(0, place), due);
                    due = weight + place >= 10 ? weight + place - 9 : weight + place;
                    Check.same("weight of a row from " + weight + " on " + place, x.weightAt(0, place), due);
                }
            }
        }
        FairHandful one = table(8, 0, 0);
        Check.same("a row of one", one.offerRow(0, 999, 9, 1), 1);
        sameValues("a row of one", one, 0, 999);
        Check.same("a row of one: seen", one.seenBy(0), 1);
        FairHandful most = table(8, 0, 0);
        most.offerRow(0, 999, 9, 200);
        Check.same("a row of 200: seen", most.seenBy(0), 200);
    }

    // "how many of them get a place, whether they lose it again or not"
    private static void rowIsAsManyOffers() {
        for (int[] a : new int[][] {{0, 1, 200}, {999, 9, 200}, {801, 5, 200}, {998, 8, 199}, {5, 5, 1}, {999, 9, 2}}) {
            for (int way = 0; way <= 1; way++) {
                FairHandful x = table(3, way, 17);
                FairHandful y = table(3, way, 17);
                int placed = 0;
                for (int came = 0; came < a[2]; came++) {
                    placed += y.offer(0, (a[0] + came) % 1000, (a[1] + came - 1) % 9 + 1) >= 0 ? 1 : 0;
                }
                Check.same("a row of " + a[2], x.offerRow(0, a[0], a[1], a[2]), placed);
                Check.same("what a row of " + a[2] + " leaves", x.digest(), y.digest());
            }
        }
    }

    // "for each place from the last one that holds a stone down to 1 below its number and 1 is drawn"
    private static void mixOfSoManyStones() {
        for (int room = 1; room <= 8; room++) {
            for (int count = 0; count <= room; count++) {
                FairHandful x = table(room, 0, 31 * room + count);
                if (count > 0) {
                    x.offerRow(0, 10, 1, count);
                }
                int[] due = held(x, 0);
                int luck = x.luckOf(0);
                int swaps = 0;
                for (int place = count - 1; place >= 1; place--) {
                    luck = nextLuck(luck);
                    int drawn = luck % (place + 1);
                    int kept = due[place];
                    due[place] = due[drawn];
                    due[drawn] = kept;
                    swaps += drawn == place ? 0 : 1;
                }
                String what = "mix of " + count + " in the room of " + room;
                Check.same(what, x.mix(0), swaps);
                sameValues(what, x, 0, due);
                Check.same(what + ": luck", x.luckOf(0), luck);
                for (int place = 0; place < count; place++) {
                    Check.same(what + ": its weight goes along", x.weightAt(0, place), due[place] - 9);
                    Check.same(what + ": its turn goes along", x.cameAs(0, place), due[place] - 9);
                }
            }
        }
    }

    // "how often two different places are swapped"
    private static void mixWithoutSwaps() {
        FairHandful x = table(2, 1, 0);
        x.offerRow(0, 5, 1, 2);
        x.setLuck(0, luckFor(1, 2));
        Check.same("a place with itself", x.mix(0), 0);
        sameValues("a place with itself", x, 0, 5, 6);
        x.setLuck(0, luckFor(0, 2));
        Check.same("two places", x.mix(0), 1);
        sameValues("two places", x, 0, 6, 5);

        // Equal stones are on two different places all the same.
        FairHandful y = table(2, 0, luckFor(0, 2));
        y.offer(0, 5, 5);
        y.offer(0, 5, 5);
        Check.same("equal stones", y.mix(0), 1);
        Check.same("equal stones: turn", y.cameAs(0, 0), 2);
    }

    private static void setLuckAtItsLimits() {
        FairHandful x = table(1, 0, 9999);
        Check.same("from 9999 to 0", x.setLuck(0, 0), 9999);
        Check.same("0", x.luckOf(0), 0);
        Check.same("from 0 to 9999", x.setLuck(0, 9999), 0);
        Check.same("9999", x.luckOf(0), 9999);
        Check.same("the same again", x.setLuck(0, 9999), 9999);
        x.addHand(1, 0, 5);
        x.setLuck(1, 6);
        Check.same("its own luck alone", x.luckOf(0), 9999);
    }

    private static void emptyHand() {
        for (int room = 1; room <= 8; room++) {
            for (int way = 0; way <= 1; way++) {
                FairHandful x = table(room, way, 3);
                String what = "empty, room " + room + ", way " + way + ": ";
                Check.same(what + "holds", x.holds(0), 0);
                Check.same(what + "roomOf", x.roomOf(0), room);
                Check.same(what + "seenBy", x.seenBy(0), 0);
                Check.same(what + "loadOf", x.loadOf(0), 0);
                Check.same(what + "mix", x.mix(0), 0);
                Check.same(what + "luckOf", x.luckOf(0), 3);
                Check.same(what + "placeOf", x.placeOf(0, 0), -1);
                Check.same(what + "sum", x.sum(0), 0);
                Check.same(what + "lowest", x.lowest(0), -1);
                Check.same(what + "middle", x.middle(0), -1);
                Check.same(what + "shared", x.shared(0, 0), 0);
                Check.same(what + "wouldTake", x.wouldTake(0, 9), 0);
                Check.same(what + "wouldStay 1", x.wouldStay(0, 1), 0);
                Check.same(what + "wouldStay 200", x.wouldStay(0, 200), 0);
                Check.same(what + "untilTaken", x.untilTaken(0), 1);
                Check.same(what + "weightWanted", x.weightWanted(0), 1);
                Check.same(what + "wouldJoin", x.wouldJoin(0, 0), -1);
                Check.sameDouble(what + "meanValue", x.meanValue(0), 0);
            }
        }
    }

    private static void fullHand() {
        FairHandful x = table(8, 0, 3);
        x.offerRow(0, 992, 2, 8);
        Check.same("full: holds", x.holds(0), 8);
        Check.same("full: valueAt 7", x.valueAt(0, 7), 999);
        Check.same("full: weightAt 7", x.weightAt(0, 7), 9);
        Check.same("full: cameAs 7", x.cameAs(0, 7), 8);
        Check.same("full: rankOf 7", x.rankOf(0, 7), 7);
        Check.same("full: placeOf the last one", x.placeOf(0, 999), 7);
        Check.same("full: sum", x.sum(0), 992 + 993 + 994 + 995 + 996 + 997 + 998 + 999);
        Check.same("full: shared with itself", x.shared(0, 0), 8);
        Check.sameDouble("full: meanValue", x.meanValue(0), 995.5);
        FairHandful most = table(8, 1, 0);
        for (int place = 0; place < 8; place++) {
            most.offer(0, 999, 9);
        }
        Check.same("greatest sum", most.sum(0), 8 * 999);
        Check.sameDouble("greatest mean", most.meanValue(0), 999);
        Check.same("greatest load of a hand just full", most.loadOf(0), 72);
        Check.same("eight times the same, shared", most.shared(0, 0), 8);
    }

    // What is held is what counts, and neither the room nor what was seen; a place without a stone has no value 0.
    private static void handThatSawMoreThanItHolds() {
        FairHandful x = table(8, 0, 0);
        x.offerRow(0, 101, 1, 8);
        // Down from 8, so that none of these gets a place.
        for (int came = 9; came <= 20; came++) {
            x.setLuck(0, luckFor(8, came));
            x.offer(0, 0, 1);
        }
        Check.same("seen more: seenBy", x.seenBy(0), 20);
        sameValues("seen more", x, 0, 101, 102, 103, 104, 105, 106, 107, 108);
        Check.same("seen more: placeOf 0", x.placeOf(0, 0), -1);
        Check.same("seen more: lowest", x.lowest(0), 0);
        Check.same("seen more: rankOf 0", x.rankOf(0, 0), 0);
        Check.same("seen more: rankOf 7", x.rankOf(0, 7), 7);
        Check.same("seen more: middle", x.middle(0), 105);
        Check.same("seen more: shared with itself", x.shared(0, 0), 8);
        Check.sameDouble("seen more: meanValue", x.meanValue(0), 104.5);
        int luck = x.luckIn(0, 7);
        x.mix(0);
        Check.same("seen more: seven draws to mix", x.luckOf(0), luck);

        FairHandful y = table(8, 0, 0);
        y.addHand(8, 0, 0);
        y.offerRow(0, 1, 1, 3);
        y.offerRow(1, 0, 1, 8);
        Check.same("room left: placeOf 0", y.placeOf(0, 0), -1);
        Check.same("room left: shared", y.shared(0, 1), 3);
        Check.same("room left: shared the other way round", y.shared(1, 0), 3);
        Check.same("room left: lowest", y.lowest(0), 0);
        Check.same("room left: middle", y.middle(0), 2);
        Check.sameDouble("room left: meanValue", y.meanValue(0), 2);

        // One hand of a full and a small one, with 0 among the values of the other alone.
        FairHandful z = table(1, 1, 0);
        z.addHand(8, 0, 0);
        z.offerRow(0, 7, 1, 100);
        z.offerRow(1, 0, 1, 2);
        z.offer(1, z.valueAt(0, 0), 1);
        Check.same("seen more, room for one: shared", z.shared(0, 1), 1);
        Check.same("seen more, room for one: shared the other way round", z.shared(1, 0), 1);
    }

    // "which one of those that the hand has seen it was, from 1 on"
    private static void cameAsBehindManyStones() {
        FairHandful x = table(1, 0, 0);
        x.offer(0, 0, 1);
        Check.same("the first one", x.cameAs(0, 0), 1);
        int due = 1;
        for (int came = 2; came <= 200; came++) {
            due = x.offer(0, came, 1) == 0 ? came : due;
        }
        Check.same("the last one with a place", x.cameAs(0, 0), due);
        Check.same("its value", x.valueAt(0, 0), due == 1 ? 0 : due);
        x.setLuck(0, luckFor(0, 201));
        x.offer(0, 7, 1);
        Check.same("number 201", x.cameAs(0, 0), 201);

        // "of a stone that came by joining as the other hand counted it", here more than once.
        FairHandful y = table(2, 0, 0);
        y.addHand(2, 0, 0);
        y.addHand(2, 0, 0);
        y.offerRow(1, 10, 1, 2);
        y.join(0, 1);
        y.join(2, 0);
        Check.same("joined twice, the first one", y.cameAs(2, y.placeOf(2, 10)), 1);
        Check.same("joined twice, the second one", y.cameAs(2, y.placeOf(2, 11)), 2);
        y.setLuck(2, luckFor(0, 3));
        y.offer(2, 5, 1);
        Check.same("the next one is the third one", y.cameAs(2, 0), 3);
    }

    private static void placeOfAtItsLimits() {
        FairHandful x = table(8, 0, 0);
        x.offer(0, 999, 1);
        x.offer(0, 0, 1);
        x.offer(0, 999, 1);
        x.offer(0, 0, 1);
        Check.same("the first place with 999", x.placeOf(0, 999), 0);
        Check.same("the first place with 0", x.placeOf(0, 0), 1);
        for (int value : new int[] {1, 998, -1, 1000, Integer.MIN_VALUE, Integer.MAX_VALUE}) {
            Check.same("no place with " + value, x.placeOf(0, value), -1);
        }
    }

    // "the smallest value, of several the first"
    private static void lowestOfEquals() {
        for (int first = 0; first < 8; first++) {
            FairHandful x = table(8, 0, 0);
            for (int place = 0; place < 8; place++) {
                x.offer(0, place < first ? 999 : place % 3 == first % 3 ? 0 : 1, 1);
            }
            Check.same("the first place with the smallest value", x.lowest(0), first);
        }
    }

    // "a smaller value than this one, or the same on a place ahead of it"
    private static void rankOfEquals() {
        FairHandful x = table(8, 0, 0);
        for (int place = 0; place < 8; place++) {
            x.offer(0, 999, 1);
            Check.same("equals stand as they are", x.rankOf(0, place), place);
        }
        FairHandful y = table(8, 0, 0);
        int[] values = {5, 0, 999, 5, 0, 999, 5, 4};
        int[] due = {3, 0, 6, 4, 1, 7, 5, 2};
        for (int value : values) {
            y.offer(0, value, 1);
        }
        for (int place = 0; place < 8; place++) {
            Check.same("rankOf " + place, y.rankOf(0, place), due[place]);
        }
    }

    // "the value of the stone with the rank holds() / 2"
    private static void middleOfSoManyStones() {
        int[] values = {50, 20, 70, 10, 60, 30, 80, 40};
        // In order: 50; 20 50; 20 50 70; 10 20 50 70; 10 20 50 60 70; and so on: always 50.
        FairHandful x = table(8, 0, 0);
        for (int place = 0; place < 8; place++) {
            x.offer(0, values[place], 1);
            Check.same("middle of " + (place + 1), x.middle(0), 50);
        }
        FairHandful y = table(8, 0, 0);
        for (int place = 0; place < 8; place++) {
            y.offer(0, place, 1);
            Check.same("middle of 0 to " + place, y.middle(0), (place + 1) / 2);
        }
        FairHandful z = table(8, 0, 0);
        for (int place = 0; place < 8; place++) {
            z.offer(0, 999 - place, 1);
            Check.same("middle of 999 down to " + (999 - place), z.middle(0), 999 - place + (place + 1) / 2);
        }
    }

    // "each as often as the one that holds it less often does"
    private static void sharedAsOftenAsTheLess() {
        for (int times = 0; times <= 8; times++) {
            for (int others = 0; others <= 8; others++) {
                FairHandful x = table(8, 0, 0);
                x.addHand(8, 1, 0);
                for (int place = 0; place < 8; place++) {
                    x.offer(0, place < times ? 999 : 1, 1);
                    x.offer(1, place < others ? 999 : 0, 2);
                }
                Check.same(times + " times with " + others, x.shared(0, 1), Math.min(times, others));
                Check.same(others + " times with " + times, x.shared(1, 0), Math.min(times, others));
                Check.same("with itself", x.shared(0, 0), 8);
            }
        }
    }

    private static void luckInAtItsLimits() {
        FairHandful x = table(1, 0, 9999);
        Check.same("no draws", x.luckIn(0, 0), 9999);
        int luck = 9999;
        for (int draw = 1; draw <= 1000; draw++) {
            luck = nextLuck(luck);
            if (draw <= 10 || draw >= 990) {
                Check.same("luckIn " + draw, x.luckIn(0, draw), luck);
            }
        }
    }

    private static void drawsUntilAtItsLimits() {
        FairHandful x = table(1, 0, 0);
        for (int below = 1; below <= 100; below++) {
            x.setLuck(0, luckFor(below - 1, below));
            Check.same("the last number below " + below, x.drawsUntil(0, below, below - 1), 1);
            x.setLuck(0, luckFor(0, below));
            Check.same("the first number below " + below, x.drawsUntil(0, below, 0), 1);
        }
        for (int[] a : new int[][] {{499, 499}, {500, 500}, {501, -1}}) {
            int[] found = firstDraw(a[0]);
            Check.same("the first draw is number " + a[0], table(1, 0, found[0]).drawsUntil(0, 97, found[1]), a[1]);
        }
    }

    /** A luck and a number below 97 that is drawn so late; below 100 each one comes within 100 draws or never. */
    private static int[] firstDraw(int first) {
        for (int luck = 0; luck < 10000; luck++) {
            for (int drawn = 0; drawn < 97; drawn++) {
                int now = luck;
                int draw = 0;
                do {
                    now = nextLuck(now);
                    draw++;
                } while (draw <= first && now % 97 != drawn);
                if (draw == first) {
                    return new int[] {luck, drawn};
                }
            }
        }
        return new int[] {-1, -1};
    }

    // "the place that a stone with this weight would get, if it came now"
    private static void wouldTakeAsOffered() {
        for (int way = 0; way <= 1; way++) {
            for (int luck = 0; luck < 300; luck++) {
                for (int weight = 1; weight <= 9; weight++) {
                    FairHandful x = table(3, way, luck);
                    x.offerRow(0, 1, 1 + luck % 9, 5);
                    int would = x.wouldTake(0, weight);
                    Check.same("wouldTake, way " + way + ", luck " + luck, would, x.offer(0, 0, weight));
                }
            }
        }
    }

    // "if so many came": the number 200 counts, and the one behind it does not.
    private static void wouldStayAtItsLimits() {
        for (int way = 0; way <= 1; way++) {
            for (int first : new int[] {1, 2, 199, 200, 201}) {
                FairHandful x = takenAs(way, first);
                String what = "way " + way + ", taken as number " + first;
                Check.same(what + ": 1", x.wouldStay(0, 1), first <= 1 ? 0 : 1);
                Check.same(what + ": 199", x.wouldStay(0, 199), first <= 199 ? 0 : 1);
                Check.same(what + ": 200", x.wouldStay(0, 200), first <= 200 ? 0 : 1);
                int luck = x.luckOf(0);
                int placed = 0;
                for (int came = 1; came <= 200; came++) {
                    placed += x.offer(0, 0, 1) >= 0 ? 1 : 0;
                }
                Check.that(what + ": as offered from the luck " + luck, placed > 0 == first <= 200);
            }
        }
    }

    /** A hand with room for one, so full that a row of stones with the weight 1 gets no place till this one. */
    private static FairHandful takenAs(int way, int first) {
        for (int seen = 1; seen <= 200; seen++) {
            FairHandful x = table(1, way, 0);
            x.offerRow(0, 5, 1, seen);
            int count = way == 0 ? x.seenBy(0) : x.loadOf(0);
            for (int luck = 0; luck < 10000; luck++) {
                if (firstTaken(luck, count, first) == first) {
                    x.setLuck(0, luck);
                    return x;
                }
            }
        }
        throw new IllegalStateException("no luck for way " + way + ", number " + first);
    }

    /** When the only place is drawn below a count that grows by 1 each time; one more than most if never. */
    private static int firstTaken(int luck, int count, int most) {
        int now = luck;
        for (int came = 1; came <= most; came++) {
            now = nextLuck(now);
            if (now % (count + came) == 0) {
                return came;
            }
        }
        return most + 1;
    }

    private static void wouldStayWithOneMore() {
        // Those that come while there is room take no place of another one.
        for (int held = 1; held <= 8; held++) {
            FairHandful x = table(8, held % 2, 0);
            x.offerRow(0, 0, 1, held);
            if (held < 8) {
                Check.same("just filled from " + held, x.wouldStay(0, 8 - held), held);
            }
            int now = x.wouldStay(0, 9 - held);
            FairHandful y = table(8, held % 2, 0);
            y.offerRow(0, 0, 1, held);
            for (int came = held; came < 8; came++) {
                y.offer(0, 999, 1);
            }
            int place = y.offer(0, 999, 1);
            Check.same("one more behind " + held, now, place >= 0 && place < held ? held - 1 : held);
        }
    }

    // "-1 if none of 200 does"
    private static void untilTakenAtItsEnd() {
        for (int way = 0; way <= 1; way++) {
            for (int first : new int[] {1, 2, 199, 200, 201}) {
                int due = first > 200 ? -1 : first;
                Check.same("way " + way + ", taken as number " + first, takenAs(way, first).untilTaken(0), due);
            }
        }
    }

    // "the least weight, 1 to 9, of a stone that would get a place"
    private static void weightWantedOfEachWeight() {
        boolean[] seen = new boolean[11];
        for (int luck = 0; luck < 10000; luck += 7) {
            FairHandful x = table(1, 1, 0);
            x.offerRow(0, 1, 8, 4);
            x.setLuck(0, luck);
            int due = -1;
            for (int weight = 9; weight >= 1; weight--) {
                due = nextLuck(luck) % (8 + 9 + 1 + 2 + weight) < weight ? weight : due;
            }
            Check.same("weightWanted with luck " + luck, x.weightWanted(0), due);
            seen[due + 1] = true;
        }
        for (int weight : new int[] {-1, 1, 2, 8, 9}) {
            Check.that("no luck wants " + weight, seen[weight + 1]);
        }
    }

    // "join() of both; -1 if it would be refused, or both are the same"
    private static void wouldJoinAsJoined() {
        for (int luck = 0; luck < 10000; luck += 97) {
            FairHandful x = two(5, luck % 9, luck % 7);
            x.setLuck(0, luck);
            int would = x.wouldJoin(0, 1);
            Check.same("wouldJoin with luck " + luck, would, x.join(0, 1));
        }
        FairHandful y = table(1, 0, 0);
        y.addHand(2, 0, 0);
        y.addHand(1, 1, 0);
        for (int hand = 0; hand < 3; hand++) {
            for (int other = 0; other < 3; other++) {
                Check.same("wouldJoin " + hand + ", " + other, y.wouldJoin(hand, other), -1);
            }
        }
    }

    private static void meanIsNotCut() {
        FairHandful x = table(8, 0, 0);
        x.offer(0, 1, 1);
        for (int count = 1; count <= 8; count++) {
            Check.sameDouble("1 by " + count, x.meanValue(0), 1.0 / count);
            x.offer(0, 0, 1);
        }
        FairHandful y = table(1, 0, 0);
        y.offer(0, 0, 1);
        Check.sameDouble("of one stone with 0", y.meanValue(0), 0);
    }

    /** What the checksum would be if it did not wrap around. */
    private static BigInteger digestInFull(FairHandful x) {
        BigInteger d = add(BigInteger.valueOf(2371), x.hands());
        for (int hand = 0; hand < x.hands(); hand++) {
            d = add(d, x.holds(hand), x.roomOf(hand), x.seenBy(hand), x.loadOf(hand), x.luckOf(hand), x.sum(hand),
                x.lowest(hand), x.middle(hand), x.luckIn(hand, 7), x.wouldTake(hand, 1), x.wouldStay(hand, 20),
                x.untilTaken(hand), x.weightWanted(hand));
            for (int place = 0; place < x.holds(hand); place++) {
                d = add(d, x.valueAt(hand, place), x.weightAt(hand, place), x.cameAs(hand, place),
                    x.rankOf(hand, place));
            }
            for (int other = 0; other < x.hands(); other++) {
                d = add(d, x.shared(hand, other), x.wouldJoin(hand, other));
            }
        }
        return d;
    }

    private static BigInteger add(BigInteger before, int... answers) {
        BigInteger d = before;
        for (int answer : answers) {
            d = d.multiply(BigInteger.valueOf(31)).add(BigInteger.valueOf(answer));
        }
        return d;
    }

    // "d becomes d * 31 + hands(), which wraps around as a 64-bit integer"
    private static void digestWrapsAround() {
        Check.same("without hands", new FairHandful().digest(), 73501);
        boolean below = false;
        boolean above = false;
        for (int luck = 0; luck < 60; luck++) {
            FairHandful x = new FairHandful();
            for (int hand = 0; hand < 1 + luck % 5; hand++) {
                x.addHand(luck % 8 + 1, hand % 3 / 2, luck * 100 + hand);
                if (hand != luck % 7) {
                    x.offerRow(hand, 995 + luck % 5, 7, 1 + luck * luck % 12 + hand);
                }
            }
            BigInteger full = digestInFull(x);
            Check.same("wrapped around", x.digest(), full.longValue());
            Check.that("it is too large for 64 bits", full.bitLength() > 64);
            below |= full.longValue() < 0;
            above |= full.longValue() > 0;
        }
        Check.that("wrapped around below and above 0", below && above);
    }
}
