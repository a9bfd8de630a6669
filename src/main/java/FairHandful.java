/** Hands that keep a fair handful of an endless row. */
public final class FairHandful {
    private static final int MOST_HANDS = 5;
    private static final int MOST_ROOM = 8;
    private static final int FAIR = 0;
    private static final int BY_WEIGHT = 1;
    private static final int MOST_LUCK = 9999;
    private static final int MOST_VALUE = 999;
    private static final int MOST_WEIGHT = 9;
    private static final int MOST_STONES = 200;
    private static final int MOST_DRAWS = 1000;
    private static final int MOST_TRIES = 500;
    private static final int MOST_BELOW = 100;
    private static final int NONE = -1;
    private static final long DIGEST_START = 2371;
    private static final int DIGEST_DRAWS = 7;
    private static final int DIGEST_STONES = 20;

    /** Filled from 0 on; null where no hand has been added yet. */
    private final Hand[] table;

    /** Tries out what would be. It is kept, so that a question makes no new rows. */
    private final Hand trial;

    public FairHandful() {
        table = new Hand[MOST_HANDS];
        trial = new Hand(1, FAIR, 0);
    }

    // ---- hands and stones

    public int addHand(int room, int way, int luck) throws IllegalArgumentException, IllegalStateException {
        if (!isWithin(room, 1, MOST_ROOM) || !isWithin(way, FAIR, BY_WEIGHT) || !isWithin(luck, 0, MOST_LUCK)) {
            throw new IllegalArgumentException("room, way or luck");
        }
        int number = hands();
        if (number >= table.length) {
            throw new IllegalStateException("there are enough hands");
        }
        table[number] = new Hand(room, way, luck);
        return number;
    }

    public int offer(int hand, int value, int weight) throws IndexOutOfBoundsException, IllegalArgumentException {
        Hand one = handAt(hand);
        if (!isWithin(value, 0, MOST_VALUE) || !isWithin(weight, 1, MOST_WEIGHT)) {
            throw new IllegalArgumentException("value or weight");
        }
        return one.take(value, weight);
    }

    public int offerRow(int hand, int value, int weight, int many)
            throws IndexOutOfBoundsException, IllegalArgumentException {
        Hand one = handAt(hand);
        if (!isWithin(value, 0, MOST_VALUE) || !isWithin(weight, 1, MOST_WEIGHT) || !isWithin(many, 1, MOST_STONES)) {
            throw new IllegalArgumentException("value, weight or many");
        }
        int placed = 0;
        int nextValue = value;
        int nextWeight = weight;
        for (int came = 0; came < many; came++) {
            if (one.take(nextValue, nextWeight) != NONE) {
                placed++;
            }
            nextValue = nextValue == MOST_VALUE ? 0 : nextValue + 1;
            nextWeight = nextWeight == MOST_WEIGHT ? 1 : nextWeight + 1;
        }
        return placed;
    }

    public int mix(int hand) throws IndexOutOfBoundsException {
        return handAt(hand).shuffle();
    }

    public int join(int hand, int other)
            throws IndexOutOfBoundsException, IllegalArgumentException, IllegalStateException {
        Hand first = handAt(hand);
        Hand second = handAt(other);
        if (first == second) {
            throw new IllegalArgumentException("a hand with itself");
        }
        if (!areAlike(first, second)) {
            throw new IllegalStateException("not both fair with as much room");
        }
        int taken = tryJoin(first, second);
        first.become(trial);
        second.forget();
        return taken;
    }

    public int setLuck(int hand, int luck) throws IndexOutOfBoundsException, IllegalArgumentException {
        Hand one = handAt(hand);
        if (!isWithin(luck, 0, MOST_LUCK)) {
            throw new IllegalArgumentException("luck");
        }
        int before = one.luck;
        one.luck = luck;
        return before;
    }

    // ---- what is held

    public int hands() {
        int number = 0;
        while (number < table.length && table[number] != null) {
            number++;
        }
        return number;
    }

    public int holds(int hand) throws IndexOutOfBoundsException {
        return handAt(hand).held;
    }

    public int roomOf(int hand) throws IndexOutOfBoundsException {
        return handAt(hand).room;
    }

    public int seenBy(int hand) throws IndexOutOfBoundsException {
        return handAt(hand).seen;
    }

    public int loadOf(int hand) throws IndexOutOfBoundsException {
        return handAt(hand).load;
    }

    public int luckOf(int hand) throws IndexOutOfBoundsException {
        return handAt(hand).luck;
    }

    public int valueAt(int hand, int place) throws IndexOutOfBoundsException {
        return at(handHolding(hand, place).values, place);
    }

    public int weightAt(int hand, int place) throws IndexOutOfBoundsException {
        return at(handHolding(hand, place).weights, place);
    }

    public int cameAs(int hand, int place) throws IndexOutOfBoundsException {
        return at(handHolding(hand, place).turns, place);
    }

    public int placeOf(int hand, int value) throws IndexOutOfBoundsException {
        Hand one = handAt(hand);
        for (int place = 0; place < one.held; place++) {
            if (at(one.values, place) == value) {
                return place;
            }
        }
        return NONE;
    }

    // ---- in order

    public int sum(int hand) throws IndexOutOfBoundsException {
        return handAt(hand).total();
    }

    public int lowest(int hand) throws IndexOutOfBoundsException {
        return handAt(hand).placeRanked(0);
    }

    public int rankOf(int hand, int place) throws IndexOutOfBoundsException {
        return handHolding(hand, place).rank(place);
    }

    public int middle(int hand) throws IndexOutOfBoundsException {
        return handAt(hand).middleValue();
    }

    public int shared(int hand, int other) throws IndexOutOfBoundsException {
        return commonValues(handAt(hand), handAt(other));
    }

    // ---- luck

    public int luckIn(int hand, int draws) throws IndexOutOfBoundsException, IllegalArgumentException {
        Hand one = handAt(hand);
        if (!isWithin(draws, 0, MOST_DRAWS)) {
            throw new IllegalArgumentException("draws");
        }
        return luckBehind(one, draws);
    }

    public int drawsUntil(int hand, int below, int drawn) throws IndexOutOfBoundsException, IllegalArgumentException {
        Hand one = handAt(hand);
        if (!isWithin(below, 1, MOST_BELOW) || !isWithin(drawn, 0, below - 1)) {
            throw new IllegalArgumentException("below or drawn");
        }
        trial.become(one);
        for (int draw = 1; draw <= MOST_TRIES; draw++) {
            if (trial.draw(below) == drawn) {
                return draw;
            }
        }
        return NONE;
    }

    // ---- what would be

    public int wouldTake(int hand, int weight) throws IndexOutOfBoundsException, IllegalArgumentException {
        Hand one = handAt(hand);
        if (!isWithin(weight, 1, MOST_WEIGHT)) {
            throw new IllegalArgumentException("weight");
        }
        return placeForWeight(one, weight);
    }

    public int wouldStay(int hand, int many) throws IndexOutOfBoundsException, IllegalArgumentException {
        Hand one = handAt(hand);
        if (!isWithin(many, 1, MOST_STONES)) {
            throw new IllegalArgumentException("many");
        }
        return stayingAfter(one, many);
    }

    public int untilTaken(int hand) throws IndexOutOfBoundsException {
        return stonesUntilPlaced(handAt(hand));
    }

    public int weightWanted(int hand) throws IndexOutOfBoundsException {
        return leastWeightPlaced(handAt(hand));
    }

    public int wouldJoin(int hand, int other) throws IndexOutOfBoundsException {
        return takenIfJoined(handAt(hand), handAt(other));
    }

    public double meanValue(int hand) throws IndexOutOfBoundsException {
        Hand one = handAt(hand);
        return one.held < 1 ? 0.0 : (double) one.total() / one.held;
    }

    public long digest() {
        long d = digested(DIGEST_START, hands());
        for (int number = 0; number < table.length; number++) {
            Hand hand = table[number];
            if (hand != null) {
                d = digestedCounts(d, hand);
                d = digestedForecasts(d, hand);
                d = digestedStones(d, hand);
                d = digestedPairs(d, hand);
            }
        }
        return d;
    }

    private static long digested(long d, int answer) {
        return d * 31 + answer;
    }

    private static long digestedCounts(long before, Hand hand) {
        long d = digested(before, hand.held);
        d = digested(d, hand.room);
        d = digested(d, hand.seen);
        d = digested(d, hand.load);
        d = digested(d, hand.luck);
        d = digested(d, hand.total());
        d = digested(d, hand.placeRanked(0));
        return digested(d, hand.middleValue());
    }

    private long digestedForecasts(long before, Hand hand) {
        long d = digested(before, luckBehind(hand, DIGEST_DRAWS));
        d = digested(d, placeForWeight(hand, 1));
        d = digested(d, stayingAfter(hand, DIGEST_STONES));
        d = digested(d, stonesUntilPlaced(hand));
        return digested(d, leastWeightPlaced(hand));
    }

    private static long digestedStones(long before, Hand hand) {
        long d = before;
        for (int place = 0; place < hand.held; place++) {
            d = digested(d, at(hand.values, place));
            d = digested(d, at(hand.weights, place));
            d = digested(d, at(hand.turns, place));
            d = digested(d, hand.rank(place));
        }
        return d;
    }

    private long digestedPairs(long before, Hand hand) {
        long d = before;
        for (int number = 0; number < table.length; number++) {
            Hand other = table[number];
            if (other != null) {
                d = digested(d, commonValues(hand, other));
                d = digested(d, takenIfJoined(hand, other));
            }
        }
        return d;
    }

    private Hand handAt(int number) {
        Hand hand = number >= 0 && number < table.length ? table[number] : null;
        if (hand == null) {
            throw new IndexOutOfBoundsException("no such hand");
        }
        return hand;
    }

    private Hand handHolding(int number, int place) {
        Hand hand = handAt(number);
        if (place < 0 || place >= hand.held) {
            throw new IndexOutOfBoundsException("nothing on this place");
        }
        return hand;
    }

    private static boolean areAlike(Hand first, Hand second) {
        return first.way == FAIR && second.way == FAIR && first.room == second.room;
    }

    /** Leaves in trial what the first hand becomes by joining; answers how many stones are the second one's. */
    private int tryJoin(Hand first, Hand second) {
        int bothSeen = first.seen + second.seen;
        int bothLoad = first.load + second.load;
        int fromFirst = 0;
        int fromSecond = 0;
        trial.become(first);
        for (int place = 0; place < first.room; place++) {
            if (fromFirst >= first.held && fromSecond >= second.held) {
                break;
            }
            boolean isFirsts = trial.draw(bothSeen - place) < first.seen - fromFirst;
            if ((isFirsts && fromFirst < first.held) || fromSecond >= second.held) {
                trial.copyStone(place, first, fromFirst);
                fromFirst++;
            } else {
                trial.copyStone(place, second, fromSecond);
                fromSecond++;
            }
        }
        trial.held = fromFirst + fromSecond;
        trial.seen = bothSeen;
        trial.load = bothLoad;
        return fromSecond;
    }

    private int takenIfJoined(Hand first, Hand second) {
        return first != second && areAlike(first, second) ? tryJoin(first, second) : NONE;
    }

    private int placeForWeight(Hand hand, int weight) {
        trial.become(hand);
        return trial.take(0, weight);
    }

    private int stayingAfter(Hand hand, int many) {
        trial.become(hand);
        for (int came = 0; came < many; came++) {
            trial.take(0, 1);
        }
        int staying = 0;
        for (int place = 0; place < trial.held; place++) {
            // A hand has seen at least as many stones as any of its own was counted, joined ones too;
            // so only those that came on trial are counted above.
            if (at(trial.turns, place) <= hand.seen) {
                staying++;
            }
        }
        return staying;
    }

    private int stonesUntilPlaced(Hand hand) {
        trial.become(hand);
        for (int came = 1; came <= MOST_STONES; came++) {
            if (trial.take(0, 1) != NONE) {
                return came;
            }
        }
        return NONE;
    }

    private int leastWeightPlaced(Hand hand) {
        for (int weight = 1; weight <= MOST_WEIGHT; weight++) {
            if (placeForWeight(hand, weight) != NONE) {
                return weight;
            }
        }
        return NONE;
    }

    private static int commonValues(Hand hand, Hand other) {
        int common = 0;
        for (int place = 0; place < hand.held; place++) {
            int value = at(hand.values, place);
            if (hand.countAhead(place, value) < other.countAhead(other.held, value)) {
                common++;
            }
        }
        return common;
    }

    private int luckBehind(Hand hand, int draws) {
        trial.become(hand);
        for (int draw = 0; draw < draws; draw++) {
            trial.draw(1);
        }
        return trial.luck;
    }

    private static boolean isWithin(int number, int least, int most) {
        return number >= least && number <= most;
    }

    private static int at(int[] row, int index) {
        return index >= 0 && index < row.length ? row[index] : 0;
    }

    private static void put(int[] row, int index, int number) {
        if (index >= 0 && index < row.length) {
            row[index] = number;
        }
    }

    private static void swap(int[] row, int one, int other) {
        int kept = at(row, one);
        put(row, one, at(row, other));
        put(row, other, kept);
    }

    /** One hand with its stones; a stone is what stands in the three rows on one place. */
    private static final class Hand {
        // As long as the largest room, so that one hand on trial can become any other.
        private final int[] values;
        private final int[] weights;
        private final int[] turns;
        private int room;
        private int way;
        private int luck;
        private int held;
        private int seen;
        private int load;

        private Hand(int room, int way, int luck) {
            this.values = new int[MOST_ROOM];
            this.weights = new int[MOST_ROOM];
            this.turns = new int[MOST_ROOM];
            this.room = room;
            this.way = way;
            this.luck = luck;
        }

        private void become(Hand other) {
            room = other.room;
            way = other.way;
            luck = other.luck;
            held = other.held;
            seen = other.seen;
            load = other.load;
            for (int place = 0; place < held; place++) {
                copyStone(place, other, place);
            }
        }

        private void forget() {
            held = 0;
            seen = 0;
            load = 0;
        }

        private void copyStone(int place, Hand other, int otherPlace) {
            put(values, place, at(other.values, otherPlace));
            put(weights, place, at(other.weights, otherPlace));
            put(turns, place, at(other.turns, otherPlace));
        }

        private int draw(int below) {
            luck = (luck * 4621 + 2777) % 10000;
            return below < 1 ? 0 : luck % below;
        }

        /** Lets a stone come; answers the place that it gets. */
        private int take(int value, int weight) {
            seen++;
            load += weight;
            int place = placeForNext(weight);
            if (place != NONE) {
                put(values, place, value);
                put(weights, place, weight);
                put(turns, place, seen);
            }
            return place;
        }

        private int placeForNext(int weight) {
            if (held < room) {
                held++;
                return held - 1;
            }
            if (way == FAIR) {
                int drawn = draw(seen);
                return drawn < room ? drawn : NONE;
            }
            return draw(load) < weight * room ? draw(room) : NONE;
        }

        private int shuffle() {
            int swaps = 0;
            for (int place = held - 1; place >= 1; place--) {
                int drawn = draw(place + 1);
                if (drawn != place) {
                    swap(values, place, drawn);
                    swap(weights, place, drawn);
                    swap(turns, place, drawn);
                    swaps++;
                }
            }
            return swaps;
        }

        private int total() {
            int total = 0;
            for (int place = 0; place < held; place++) {
                total += at(values, place);
            }
            return total;
        }

        private int rank(int place) {
            int value = at(values, place);
            int rank = countAhead(place, value);
            for (int other = 0; other < held; other++) {
                if (at(values, other) < value) {
                    rank++;
                }
            }
            return rank;
        }

        /** How often a value is held on the places ahead of this one. */
        private int countAhead(int place, int value) {
            int count = 0;
            for (int ahead = 0; ahead < place; ahead++) {
                if (at(values, ahead) == value) {
                    count++;
                }
            }
            return count;
        }

        private int placeRanked(int rank) {
            for (int place = 0; place < held; place++) {
                if (rank(place) == rank) {
                    return place;
                }
            }
            return NONE;
        }

        private int middleValue() {
            int place = placeRanked(held / 2);
            return place == NONE ? NONE : at(values, place);
        }
    }
}
