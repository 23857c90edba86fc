import java.math.BigInteger;
import java.util.ArrayList;
import java.util.List;

/** The document once more, told in another way: each answer is worked out anew from the dice and the wagers. */
final class Model {
    /** A wager: patron, kind, number, stake, win, base. */
    private final List<int[]> wagers = new ArrayList<>();
    private final long[] purses = {100, 100, 100, 100, 100, 100};
    private int[] dice = {6, 6};
    private long bank = 500;
    private long rounds;

    long setDice(int first, int second, int third) {
        argument(isFaces(first) && (second == 0 || isFaces(second)) && (third == 0 || isFaces(third)));
        argument(second != 0 || third == 0);
        state(wagers.isEmpty());
        dice = second == 0 ? new int[] {first} : third == 0 ? new int[] {first, second} : new int[] {first, second, third};
        return outcomes();
    }

    long dice() {
        return dice.length;
    }

    int outcomes() {
        int all = 1;
        for (int faces : dice) {
            all *= faces;
        }
        return all;
    }

    long sumOf(int outcome) {
        index(isOutcome(outcome));
        return sum(shows(outcome));
    }

    long ways(int kind, int number) {
        argument(isEvent(kind, number));
        long ways = 0;
        for (int outcome = 0; outcome < outcomes(); outcome++) {
            ways += comes(kind, number, outcome) ? 1 : 0;
        }
        return ways;
    }

    double chance(int kind, int number) {
        return (double) ways(kind, number) / outcomes();
    }

    long lay(int patron, int kind, int number, int stake, int win, int base) {
        index(isPatron(patron));
        argument(isEvent(kind, number) && within(stake, 1, 100) && within(win, 1, 20) && within(base, 1, 10));
        state(wagers.size() < 12 && purses[patron] >= stake);
        purses[patron] -= stake;
        wagers.add(new int[] {patron, kind, number, stake, win, base});
        return wagers.size() - 1;
    }

    long takeBack(int wager) {
        int[] w = wager(wager);
        purses[w[0]] += w[3];
        wagers.remove(wager);
        return w[3];
    }

    long settle(int outcome) {
        long gain = gainAt(outcome);
        for (int patron = 0; patron < 6; patron++) {
            purses[patron] = purseAt(patron, outcome);
        }
        bank += gain;
        rounds++;
        wagers.clear();
        return gain;
    }

    long open() {
        return wagers.size();
    }

    long bank() {
        return bank;
    }

    long rounds() {
        return rounds;
    }

    long purseOf(int patron) {
        index(isPatron(patron));
        return purses[patron];
    }

    long patronOf(int wager) {
        return wager(wager)[0];
    }

    long stakeOf(int wager) {
        return wager(wager)[3];
    }

    long bringsOf(int wager) {
        return brings(wager(wager));
    }

    long staked() {
        long all = 0;
        for (int[] w : wagers) {
            all += w[3];
        }
        return all;
    }

    long edgeTop(int wager) {
        return lowest(edgeOf(wager(wager)))[0].longValueExact();
    }

    long edgeBottom(int wager) {
        return lowest(edgeOf(wager(wager)))[1].longValueExact();
    }

    long allEdgesTop() {
        return allEdges()[0].longValueExact();
    }

    long allEdgesBottom() {
        return allEdges()[1].longValueExact();
    }

    long dearestWager() {
        for (int i = 0; i < wagers.size(); i++) {
            boolean greatest = true;
            for (int j = 0; j < wagers.size(); j++) {
                int more = compareForEach1(wagers.get(j), wagers.get(i));
                greatest &= more < 0 || more == 0;
            }
            if (greatest) {
                return i;
            }
        }
        return -1;
    }

    long gainAt(int outcome) {
        index(isOutcome(outcome));
        long gain = 0;
        for (int[] w : wagers) {
            gain += comes(w[1], w[2], outcome) ? -brings(w) : w[3];
        }
        return gain;
    }

    long worstGain() {
        long worst = Long.MAX_VALUE;
        for (int outcome = 0; outcome < outcomes(); outcome++) {
            worst = Math.min(worst, gainAt(outcome));
        }
        return worst;
    }

    long worstOutcome() {
        int outcome = 0;
        long worst = worstGain();
        while (gainAt(outcome) != worst) {
            outcome++;
        }
        return outcome;
    }

    long purseAt(int patron, int outcome) {
        index(isPatron(patron) && isOutcome(outcome));
        long purse = purses[patron];
        for (int[] w : wagers) {
            if (w[0] == patron && comes(w[1], w[2], outcome)) {
                purse += w[3] + brings(w);
            }
        }
        return purse;
    }

    long leastPurse(int patron) {
        index(isPatron(patron));
        long least = Long.MAX_VALUE;
        for (int outcome = 0; outcome < outcomes(); outcome++) {
            least = Math.min(least, purseAt(patron, outcome));
        }
        return least;
    }

    boolean isHedged(int patron) {
        index(isPatron(patron));
        long most = Long.MIN_VALUE;
        for (int outcome = 0; outcome < outcomes(); outcome++) {
            most = Math.max(most, purseAt(patron, outcome));
        }
        return most == leastPurse(patron);
    }

    long hedgeFor(int wager, int win, int base) {
        int[] w = wager(wager);
        argument(within(win, 1, 20) && within(base, 1, 10));
        for (int stake = 1; stake <= 999; stake++) {
            if (brings(w) - stake == stake * win / base - w[3]) {
                return stake;
            }
        }
        return -1;
    }

    long fairWin(int kind, int number, int base) {
        argument(isEvent(kind, number) && within(base, 1, 10));
        long fair = 0;
        for (int win = 1; win <= 20; win++) {
            if (edgeOf(new int[] {0, kind, number, 100, win, base})[0].signum() >= 0) {
                fair = win;
            }
        }
        return fair;
    }

    long digest() {
        List<Long> numbers = new ArrayList<>(List.of(dice(), (long) outcomes(), open(), bank(), rounds(), staked()));
        numbers.addAll(List.of(allEdgesTop(), allEdgesBottom(), dearestWager(), worstGain(), worstOutcome()));
        for (int i = 0; i < wagers.size(); i++) {
            numbers.addAll(List.of(patronOf(i), stakeOf(i), bringsOf(i), edgeTop(i), edgeBottom(i)));
        }
        for (int patron = 0; patron < 6; patron++) {
            numbers.addAll(List.of(purseOf(patron), leastPurse(patron), isHedged(patron) ? 1L : 0L));
        }
        for (int kind = 0; kind <= 9; kind++) {
            numbers.add(ways(kind, 7));
        }
        long d = 2141;
        for (long x : numbers) {
            d = d * 31 + x;
        }
        return d;
    }

    private int[] shows(int outcome) {
        int[] faces = new int[dice.length];
        int rest = outcome;
        for (int die = dice.length - 1; die >= 0; die--) {
            faces[die] = rest % dice[die] + 1;
            rest /= dice[die];
        }
        return faces;
    }

    private static int sum(int[] faces) {
        int sum = 0;
        for (int face : faces) {
            sum += face;
        }
        return sum;
    }

    private boolean comes(int kind, int number, int outcome) {
        int[] faces = shows(outcome);
        boolean same = true;
        boolean shown = false;
        for (int face : faces) {
            same &= face == faces[0];
            shown |= face == number;
        }
        int sum = sum(faces);
        boolean[] each = {sum == number, sum >= number, sum % 2 != 0, same, shown};
        return each[kind % 5] == kind < 5;
    }

    private static long brings(int[] w) {
        return w[3] * w[4] / w[5];
    }

    /** Top and bottom, not in lowest terms. */
    private BigInteger[] edgeOf(int[] w) {
        long top = 0;
        for (int outcome = 0; outcome < outcomes(); outcome++) {
            top += comes(w[1], w[2], outcome) ? -brings(w) : w[3];
        }
        return new BigInteger[] {BigInteger.valueOf(top), BigInteger.valueOf(outcomes())};
    }

    private BigInteger[] allEdges() {
        BigInteger[] all = {BigInteger.ZERO, BigInteger.ONE};
        for (int[] w : wagers) {
            BigInteger[] edge = edgeOf(w);
            BigInteger top = all[0].multiply(edge[1]).add(edge[0].multiply(all[1]));
            all = lowest(new BigInteger[] {top, all[1].multiply(edge[1])});
        }
        return all;
    }

    private static BigInteger[] lowest(BigInteger[] fraction) {
        BigInteger common = fraction[0].gcd(fraction[1]);
        return new BigInteger[] {fraction[0].divide(common), fraction[1].divide(common)};
    }

    private int compareForEach1(int[] one, int[] other) {
        BigInteger[] a = edgeOf(one);
        BigInteger[] b = edgeOf(other);
        BigInteger left = a[0].multiply(b[1]).multiply(BigInteger.valueOf(other[3]));
        return left.compareTo(b[0].multiply(a[1]).multiply(BigInteger.valueOf(one[3])));
    }

    private int[] wager(int wager) {
        index(within(wager, 0, wagers.size() - 1));
        return wagers.get(wager);
    }

    private boolean isOutcome(int outcome) {
        return within(outcome, 0, outcomes() - 1);
    }

    private static boolean isFaces(int faces) {
        return within(faces, 2, 12);
    }

    private static boolean isPatron(int patron) {
        return within(patron, 0, 5);
    }

    private static boolean isEvent(int kind, int number) {
        return within(kind, 0, 9) && within(number, 0, 36);
    }

    private static boolean within(int x, int least, int most) {
        return x >= least && x <= most;
    }

    private static void index(boolean right) {
        if (!right) {
            throw new IndexOutOfBoundsException();
        }
    }

    private static void argument(boolean right) {
        if (!right) {
            throw new IllegalArgumentException();
        }
    }

    private static void state(boolean right) {
        if (!right) {
            throw new IllegalStateException();
        }
    }
}
