import java.util.Arrays;

/**
 * Every case there is of promises 2 to 7 and 30, and of promises 19, 20 and 31 all events with many dice. The dice are
 * counted here by their faces, and what is due else comes from a formula, not from trying as the class does.
 */
final class EveryCaseTest {
    /** An object has 512 calls; a new one is taken ahead of that. */
    private static final int MOST_CALLS = 500;
    private static final int MOST_TOTAL = 2100;

    private final Check check = new Check();

    public static void main(String[] args) {
        EveryCaseTest test = new EveryCaseTest();
        test.allDice();
        test.allHedges();
        test.allFairWins();
        test.edgesOfAllEvents();
        test.check.end();
    }

    private static TavernDice with(int[] dice) {
        TavernDice x = new TavernDice();
        x.setDice(dice[0], dice[1], dice[2]);
        return x;
    }

    // ---- promises 2 to 7

    private void allDice() {
        int sets = 0;
        for (int first = 2; first <= 12; first++) {
            for (int second = 0; second <= 12; second++) {
                for (int third = 0; third <= 12; third++) {
                    if (second != 1 && third != 1 && (second != 0 || third == 0)) {
                        Count count = new Count(first, second, third);
                        check.same(count + "setDice", new TavernDice().setDice(first, second, third), count.outcomes);
                        check.same(count + "dice()", with(count.dice).dice(), count.howMany());
                        check.same(count + "outcomes()", with(count.dice).outcomes(), count.outcomes);
                        allSums(count);
                        allWays(count);
                        sets++;
                    }
                }
            }
        }
        check.same("how many sets of dice there are", sets, 11 + 11 * 11 + 11 * 11 * 11);
    }

    private void allSums(Count count) {
        TavernDice x = null;
        for (int outcome = 0; outcome < count.outcomes; outcome++) {
            if (outcome % MOST_CALLS == 0) {
                x = with(count.dice);
            }
            if (x.sumOf(outcome) != count.sums[outcome]) {
                check.same(count + "sumOf(" + outcome + ")", x.sumOf(outcome), count.sums[outcome]);
            }
        }
    }

    private void allWays(Count count) {
        TavernDice ways = with(count.dice);
        TavernDice chances = with(count.dice);
        for (int kind = 0; kind <= 9; kind++) {
            for (int number = 0; number <= 36; number++) {
                int due = count.ways(kind, number);
                int got = ways.ways(kind, number);
                double chance = chances.chance(kind, number);
                if (got != due || chance != (double) due / count.outcomes) {
                    check.tell(count + "event " + kind + ", " + number + " has " + got + " ways and chance " + chance
                        + ", due are " + due + " ways");
                }
            }
        }
    }

    // ---- promise 30

    /** The answer hangs on what the wager brings and its stake, added, alone: one wager for each of these totals. */
    private void allHedges() {
        boolean[] asked = new boolean[MOST_TOTAL + 1];
        int[][] due = leastHedges();
        for (int stake = 1; stake <= 100; stake++) {
            for (int win = 1; win <= 20; win++) {
                for (int base = 1; base <= 10; base++) {
                    int total = stake + stake * win / base;
                    if (!asked[total]) {
                        asked[total] = true;
                        hedgesOf(new int[] {stake, win, base}, total, due);
                    }
                }
            }
        }
    }

    private void hedgesOf(int[] wager, int total, int[][] due) {
        TavernDice x = new TavernDice();
        x.lay(0, 0, 7, wager[0], wager[1], wager[2]);
        for (int odds = 0; odds < 200; odds++) {
            int win = odds / 10 + 1;
            int base = odds % 10 + 1;
            int got = x.hedgeFor(0, win, base);
            if (got != due[odds][total]) {
                check.same(Arrays.toString(wager) + " hedgeFor(0, " + win + ", " + base + ")", got, due[odds][total]);
            }
        }
    }

    /** For all odds, and for each total that a stake and what it brings come to: the least such stake; else -1. */
    private static int[][] leastHedges() {
        int[][] due = new int[200][MOST_TOTAL + 1];
        for (int odds = 0; odds < 200; odds++) {
            Arrays.fill(due[odds], -1);
            for (int stake = 999; stake >= 1; stake--) {
                int total = stake + stake * (odds / 10 + 1) / (odds % 10 + 1);
                if (total <= MOST_TOTAL) {
                    due[odds][total] = stake;
                }
            }
        }
        return due;
    }

    // ---- promise 31

    private void allFairWins() {
        for (int first = 2; first <= 12; first++) {
            for (int second = 0; second <= 12; second++) {
                if (second != 1) {
                    fairWinsOf(new Count(first, second, 0));
                }
            }
            fairWinsOf(new Count(first, 12, 14 - first));
        }
    }

    private void fairWinsOf(Count count) {
        TavernDice x = null;
        for (int i = 0; i < 3700; i++) {
            if (i % MOST_CALLS == 0) {
                x = with(count.dice);
            }
            int kind = i / 370;
            int number = i / 10 % 37;
            int base = i % 10 + 1;
            int got = x.fairWin(kind, number, base);
            int due = fairWin(count.ways(kind, number), count.outcomes, base);
            if (got != due) {
                check.same(count + "fairWin(" + kind + ", " + number + ", " + base + ")", got, due);
            }
        }
    }

    /** It may bring as much as the house has of the other outcomes for each one with which it comes. */
    private static int fairWin(int ways, int outcomes, int base) {
        if (ways == 0) {
            return 20;
        }
        int mayBring = 100 * (outcomes - ways) / ways;
        return Math.min(20, (base * (mayBring + 1) - 1) / 100);
    }

    // ---- promises 19 and 20

    private void edgesOfAllEvents() {
        int[][] odds = {{1, 1, 1}, {100, 20, 1}, {7, 3, 2}, {30, 11, 4}, {64, 9, 10}};
        int[][] sets = {{2, 0, 0}, {12, 0, 0}, {6, 6, 0}, {7, 11, 0}, {5, 9, 0}, {2, 2, 2}, {4, 6, 8}, {12, 12, 12}};
        for (int[] dice : sets) {
            Count count = new Count(dice[0], dice[1], dice[2]);
            for (int event = 0; event < 370; event++) {
                TavernDice x = with(dice);
                for (int[] o : odds) {
                    int wager = x.lay(0, event / 37, event % 37, o[0], o[1], o[2]);
                    int ways = count.ways(event / 37, event % 37);
                    int gain = o[0] * (count.outcomes - ways) - o[0] * o[1] / o[2] * ways;
                    edgeIs(count + "event " + event, x.edgeTop(wager), x.edgeBottom(wager), gain, count.outcomes);
                    x.takeBack(wager);
                }
            }
        }
    }

    private void edgeIs(String of, int top, int bottom, int gain, int outcomes) {
        if (bottom < 1 || (long) top * outcomes != (long) gain * bottom || haveADivisorInCommon(top, bottom)) {
            check.tell(of + " has the edge " + top + " and " + bottom + ", due is " + gain + " by " + outcomes);
        }
    }

    private static boolean haveADivisorInCommon(int top, int bottom) {
        for (int divisor = 2; divisor <= bottom; divisor++) {
            if (top % divisor == 0 && bottom % divisor == 0) {
                return true;
            }
        }
        return false;
    }

    /** Dice, counted outcome by outcome; second and third are 0 if there is none. */
    private static final class Count {
        final int[] dice;
        final int[] sums;
        final int outcomes;
        private final int[] ofSum = new int[37];
        private final int[] ofFace = new int[37];
        private int same;

        Count(int first, int second, int third) {
            dice = new int[] {first, second, third};
            outcomes = first * Math.max(1, second) * Math.max(1, third);
            sums = new int[outcomes];
            for (int outcome = 0; outcome < outcomes; outcome++) {
                add(outcome);
            }
        }

        private void add(int outcome) {
            int[] faces = faces(outcome);
            sums[outcome] = Arrays.stream(faces).sum();
            ofSum[sums[outcome]]++;
            same += Arrays.stream(faces).distinct().count() == 1 ? 1 : 0;
            Arrays.stream(faces).distinct().forEach(face -> ofFace[face]++);
        }

        private int[] faces(int outcome) {
            if (dice[2] > 0) {
                int behind = dice[1] * dice[2];
                return new int[] {outcome / behind + 1, outcome % behind / dice[2] + 1, outcome % dice[2] + 1};
            }
            if (dice[1] > 0) {
                return new int[] {outcome / dice[1] + 1, outcome % dice[1] + 1};
            }
            return new int[] {outcome + 1};
        }

        int howMany() {
            return dice[2] > 0 ? 3 : dice[1] > 0 ? 2 : 1;
        }

        int ways(int kind, int number) {
            return kind >= 5 ? outcomes - ways(kind - 5, number) : waysThatItComes(kind, number);
        }

        private int waysThatItComes(int kind, int number) {
            switch (kind) {
                case 0: return ofSum[number];
                case 1: return Arrays.stream(ofSum, number, 37).sum();
                case 2: return (int) Arrays.stream(sums).filter(sum -> sum % 2 != 0).count();
                case 3: return same;
                default: return ofFace[number];
            }
        }

        @Override
        public String toString() {
            return Arrays.toString(dice) + ": ";
        }
    }
}
