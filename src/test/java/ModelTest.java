import java.util.ArrayList;
import java.util.Collections;
import java.util.Comparator;
import java.util.List;
import java.util.Random;

/**
 * Runs of calls whose answers are compared with those of a slow model, which follows the words of the
 * document with lists, and with copies of whole hands where the document says that nothing is changed.
 */
public final class ModelTest {
    private static final int RUNS = 400;
    /** With a digest() at each tenth call, a run stays below 512 calls. */
    private static final int CALLS = 460;

    private record Stone(int value, int weight, int turn) {
    }

    private static final class ModelHand {
        final int room;
        final int way;
        long luck;
        long seen;
        long load;
        List<Stone> stones = new ArrayList<>();

        ModelHand(int room, int way, long luck) {
            this.room = room;
            this.way = way;
            this.luck = luck;
        }

        ModelHand copy() {
            ModelHand copy = new ModelHand(room, way, luck);
            copy.seen = seen;
            copy.load = load;
            copy.stones = new ArrayList<>(stones);
            return copy;
        }

        long drawn(long below) {
            luck = (luck * 4621 + 2777) % 10000;
            return luck % below;
        }

        int come(int value, int weight) {
            seen += 1;
            load += weight;
            Stone stone = new Stone(value, weight, (int) seen);
            if (stones.size() < room) {
                stones.add(stone);
                return stones.size() - 1;
            }
            long place;
            if (way == 0) {
                place = drawn(seen);
            } else {
                place = drawn(load) < (long) weight * room ? drawn(room) : room;
            }
            if (place >= room) {
                return -1;
            }
            stones.set((int) place, stone);
            return (int) place;
        }

        int mixed() {
            int swaps = 0;
            for (int place = stones.size() - 1; place >= 1; place--) {
                int with = (int) drawn(place + 1);
                Collections.swap(stones, place, with);
                swaps += place == with ? 0 : 1;
            }
            return swaps;
        }

        int joined(ModelHand other) {
            List<Stone> mine = new ArrayList<>(stones);
            List<Stone> others = new ArrayList<>(other.stones);
            List<Stone> taken = new ArrayList<>();
            long mineUnseen = seen;
            int fromOther = 0;
            while (taken.size() < room && mine.size() + others.size() > 0) {
                long number = drawn(seen + other.seen - taken.size());
                if (others.isEmpty() || number < mineUnseen && !mine.isEmpty()) {
                    taken.add(mine.remove(0));
                    mineUnseen--;
                } else {
                    taken.add(others.remove(0));
                    fromOther++;
                }
            }
            stones = taken;
            seen += other.seen;
            load += other.load;
            other.stones = new ArrayList<>();
            other.seen = 0;
            other.load = 0;
            return fromOther;
        }

        /** The places, by value, and of the same value by place. */
        List<Integer> ordered() {
            List<Integer> places = new ArrayList<>();
            for (int place = 0; place < stones.size(); place++) {
                places.add(place);
            }
            places.sort(Comparator.comparingInt(place -> stones.get(place).value()));
            return places;
        }

        List<Integer> values() {
            List<Integer> values = new ArrayList<>();
            for (Stone stone : stones) {
                values.add(stone.value());
            }
            return values;
        }

        int sum() {
            return values().stream().mapToInt(Integer::intValue).sum();
        }

        int lowest() {
            return stones.isEmpty() ? -1 : ordered().get(0);
        }

        int middle() {
            return stones.isEmpty() ? -1 : stones.get(ordered().get(stones.size() / 2)).value();
        }

        int shared(ModelHand other) {
            List<Integer> left = other.values();
            int common = 0;
            for (Integer value : values()) {
                common += left.remove(value) ? 1 : 0;
            }
            return common;
        }

        int luckIn(int draws) {
            ModelHand copy = copy();
            for (int draw = 0; draw < draws; draw++) {
                copy.drawn(1);
            }
            return (int) copy.luck;
        }

        int drawsUntil(int below, int drawn) {
            ModelHand copy = copy();
            for (int draw = 1; draw <= 500; draw++) {
                if (copy.drawn(below) == drawn) {
                    return draw;
                }
            }
            return -1;
        }

        int wouldStay(int many) {
            ModelHand copy = copy();
            for (int i = 0; i < many; i++) {
                copy.come(0, 1);
            }
            int staying = 0;
            for (Stone stone : stones) {
                for (Stone later : copy.stones) {
                    staying += stone == later ? 1 : 0;
                }
            }
            return staying;
        }

        int untilTaken() {
            ModelHand copy = copy();
            for (int many = 1; many <= 200; many++) {
                if (copy.come(0, 1) >= 0) {
                    return many;
                }
            }
            return -1;
        }

        int weightWanted() {
            for (int weight = 1; weight <= 9; weight++) {
                if (copy().come(0, weight) >= 0) {
                    return weight;
                }
            }
            return -1;
        }

        boolean joinable(ModelHand other) {
            return way == 0 && other.way == 0 && room == other.room;
        }

        int wouldJoin(ModelHand other) {
            return this == other || !joinable(other) ? -1 : copy().joined(other.copy());
        }
    }

    private static final class Model {
        final List<ModelHand> hands = new ArrayList<>();

        ModelHand hand(int number) {
            index(number >= 0 && number < hands.size());
            return hands.get(number);
        }

        Stone stone(int hand, int place) {
            index(place >= 0 && place < hand(hand).stones.size());
            return hand(hand).stones.get(place);
        }

        int addHand(int room, int way, int luck) {
            argument(in(room, 1, 8) && in(way, 0, 1) && in(luck, 0, 9999));
            state(hands.size() < 5);
            hands.add(new ModelHand(room, way, luck));
            return hands.size() - 1;
        }

        int offer(int hand, int value, int weight) {
            ModelHand one = hand(hand);
            argument(in(value, 0, 999) && in(weight, 1, 9));
            return one.come(value, weight);
        }

        int offerRow(int hand, int value, int weight, int many) {
            ModelHand one = hand(hand);
            argument(in(value, 0, 999) && in(weight, 1, 9) && in(many, 1, 200));
            int placed = 0;
            for (int i = 0; i < many; i++) {
                placed += one.come((value + i) % 1000, (weight - 1 + i) % 9 + 1) >= 0 ? 1 : 0;
            }
            return placed;
        }

        int join(int hand, int other) {
            ModelHand first = hand(hand);
            ModelHand second = hand(other);
            argument(hand != other);
            state(first.joinable(second));
            return first.joined(second);
        }

        int setLuck(int hand, int luck) {
            ModelHand one = hand(hand);
            argument(in(luck, 0, 9999));
            long before = one.luck;
            one.luck = luck;
            return (int) before;
        }

        int rankOf(int hand, int place) {
            stone(hand, place);
            return hand(hand).ordered().indexOf(place);
        }

        int luckIn(int hand, int draws) {
            ModelHand one = hand(hand);
            argument(in(draws, 0, 1000));
            return one.luckIn(draws);
        }

        int drawsUntil(int hand, int below, int drawn) {
            ModelHand one = hand(hand);
            argument(in(below, 1, 100) && drawn >= 0 && drawn < below);
            return one.drawsUntil(below, drawn);
        }

        int wouldTake(int hand, int weight) {
            ModelHand one = hand(hand);
            argument(in(weight, 1, 9));
            return one.copy().come(0, weight);
        }

        int wouldStay(int hand, int many) {
            ModelHand one = hand(hand);
            argument(in(many, 1, 200));
            return one.wouldStay(many);
        }

        double meanValue(int hand) {
            ModelHand one = hand(hand);
            return one.stones.isEmpty() ? 0 : one.sum() / (double) one.stones.size();
        }

        long digest() {
            List<Long> row = new ArrayList<>();
            row.add((long) hands.size());
            for (ModelHand one : hands) {
                addAll(row, one.stones.size(), one.room, one.seen, one.load, one.luck, one.sum(), one.lowest(),
                    one.middle(), one.luckIn(7), one.copy().come(0, 1), one.wouldStay(20), one.untilTaken(),
                    one.weightWanted());
                for (int place = 0; place < one.stones.size(); place++) {
                    Stone stone = one.stones.get(place);
                    addAll(row, stone.value(), stone.weight(), stone.turn(), one.ordered().indexOf(place));
                }
                for (ModelHand other : hands) {
                    addAll(row, one.shared(other), one.wouldJoin(other));
                }
            }
            long d = 2371;
            for (long number : row) {
                d = d * 31 + number;
            }
            return d;
        }

        private static void addAll(List<Long> row, long... numbers) {
            for (long number : numbers) {
                row.add(number);
            }
        }

        private static boolean in(int number, int least, int most) {
            return least <= number && number <= most;
        }

        private static void index(boolean good) {
            if (!good) {
                throw new IndexOutOfBoundsException();
            }
        }

        private static void argument(boolean good) {
            if (!good) {
                throw new IllegalArgumentException();
            }
        }

        private static void state(boolean good) {
            if (!good) {
                throw new IllegalStateException();
            }
        }
    }

    private final Random random;
    private final FairHandful x = new FairHandful();
    private final Model model = new Model();
    private final List<String> calls = new ArrayList<>();

    /** Few kinds of hands make joining frequent, and few values make equal ones frequent. */
    private final boolean narrow;

    private ModelTest(int run) {
        random = new Random(run);
        narrow = run % 2 == 0;
    }

    public static void main(String[] args) {
        for (int run = 0; run < RUNS; run++) {
            new ModelTest(run).run(run);
        }
        Check.end();
    }

    private void run(int run) {
        for (int call = 0; call < CALLS; call++) {
            if (!isSame(run)) {
                return;
            }
        }
    }

    private boolean isSame(int run) {
        int[] a = arguments();
        int kind = call();
        String told = NAMES[kind] + " of " + a[0] + ", " + a[1] + ", " + a[2] + ", " + a[3];
        calls.add(told);
        String due = answer(() -> ofModel(kind, a));
        String got = answer(() -> ofProgram(kind, a));
        long dueDigest = calls.size() % 10 == 0 ? model.digest() : 0;
        long gotDigest = calls.size() % 10 == 0 ? x.digest() : 0;
        if (!due.equals(got) || dueDigest != gotDigest) {
            Check.report("run " + run + ", call " + calls.size() + ": " + told + ": answered " + got + ", due is " + due
                + "; digest() " + gotDigest + ", due is " + dueDigest + "; the calls " + calls);
            return false;
        }
        return true;
    }

    private static String answer(Check.Call call) {
        try {
            return String.valueOf(call.answer());
        } catch (RuntimeException e) {
            return e.getClass().getName();
        }
    }

    private static final String[] NAMES = {"addHand", "offer", "offerRow", "mix", "join", "setLuck", "hands", "holds",
        "roomOf", "seenBy", "loadOf", "luckOf", "valueAt", "weightAt", "cameAs", "placeOf", "sum", "lowest", "rankOf",
        "middle", "shared", "luckIn", "drawsUntil", "wouldTake", "wouldStay", "untilTaken", "weightWanted",
        "wouldJoin", "meanValue"};

    private int call() {
        return random.nextInt(3) == 0 ? random.nextInt(6) : random.nextInt(NAMES.length);
    }

    /** A hand, and three numbers that fit most calls, now and then one that fits none. */
    private int[] arguments() {
        return new int[] {number(6), number(), number(), number()};
    }

    private int number() {
        switch (random.nextInt(6)) {
            case 0:
                return number(narrow ? 3 : 1002);
            case 1:
                return number(10001);
            case 2:
                return number(102);
            case 3:
                return number(202);
            default:
                return number(narrow ? 3 : 11);
        }
    }

    private int number(int below) {
        int kind = random.nextInt(60);
        return kind == 0 ? -1 : kind == 1 ? Integer.MAX_VALUE : kind == 2 ? Integer.MIN_VALUE : random.nextInt(below);
    }

    private double ofModel(int kind, int[] a) {
        switch (kind) {
            case 0: return model.addHand(a[1], a[2], a[3]);
            case 1: return model.offer(a[0], a[1], a[2]);
            case 2: return model.offerRow(a[0], a[1], a[2], a[3]);
            case 3: return model.hand(a[0]).mixed();
            case 4: return model.join(a[0], a[1]);
            case 5: return model.setLuck(a[0], a[1]);
            case 6: return model.hands.size();
            case 7: return model.hand(a[0]).stones.size();
            case 8: return model.hand(a[0]).room;
            case 9: return model.hand(a[0]).seen;
            case 10: return model.hand(a[0]).load;
            case 11: return model.hand(a[0]).luck;
            case 12: return model.stone(a[0], a[1]).value();
            case 13: return model.stone(a[0], a[1]).weight();
            case 14: return model.stone(a[0], a[1]).turn();
            case 15: return model.hand(a[0]).values().indexOf(a[1]);
            case 16: return model.hand(a[0]).sum();
            case 17: return model.hand(a[0]).lowest();
            case 18: return model.rankOf(a[0], a[1]);
            case 19: return model.hand(a[0]).middle();
            case 20: return model.hand(a[0]).shared(model.hand(a[1]));
            case 21: return model.luckIn(a[0], a[1]);
            case 22: return model.drawsUntil(a[0], a[1], a[2]);
            case 23: return model.wouldTake(a[0], a[1]);
            case 24: return model.wouldStay(a[0], a[1]);
            case 25: return model.hand(a[0]).untilTaken();
            case 26: return model.hand(a[0]).weightWanted();
            case 27: return model.hand(a[0]).wouldJoin(model.hand(a[1]));
            default: return model.meanValue(a[0]);
        }
    }

    private double ofProgram(int kind, int[] a) {
        switch (kind) {
            case 0: return x.addHand(a[1], a[2], a[3]);
            case 1: return x.offer(a[0], a[1], a[2]);
            case 2: return x.offerRow(a[0], a[1], a[2], a[3]);
            case 3: return x.mix(a[0]);
            case 4: return x.join(a[0], a[1]);
            case 5: return x.setLuck(a[0], a[1]);
            case 6: return x.hands();
            case 7: return x.holds(a[0]);
            case 8: return x.roomOf(a[0]);
            case 9: return x.seenBy(a[0]);
            case 10: return x.loadOf(a[0]);
            case 11: return x.luckOf(a[0]);
            case 12: return x.valueAt(a[0], a[1]);
            case 13: return x.weightAt(a[0], a[1]);
            case 14: return x.cameAs(a[0], a[1]);
            case 15: return x.placeOf(a[0], a[1]);
            case 16: return x.sum(a[0]);
            case 17: return x.lowest(a[0]);
            case 18: return x.rankOf(a[0], a[1]);
            case 19: return x.middle(a[0]);
            case 20: return x.shared(a[0], a[1]);
            case 21: return x.luckIn(a[0], a[1]);
            case 22: return x.drawsUntil(a[0], a[1], a[2]);
            case 23: return x.wouldTake(a[0], a[1]);
            case 24: return x.wouldStay(a[0], a[1]);
            case 25: return x.untilTaken(a[0]);
            case 26: return x.weightWanted(a[0]);
            case 27: return x.wouldJoin(a[0], a[1]);
            default: return x.meanValue(a[0]);
        }
    }
}
