import java.util.ArrayList;

/** A tavern's ledger of dice. */
public final class TavernDice {
    private static final int PATRONS = 6;
    private static final int PURSE_AT_FIRST = 100;
    private static final int BANK_AT_FIRST = 500;

    private static final int LEAST_FACES = 2;
    private static final int MOST_FACES = 12;
    private static final int MOST_OUTCOMES = MOST_FACES * MOST_FACES * MOST_FACES;

    private static final int SUM_IS = 0;
    private static final int SUM_IS_OR_MORE = 1;
    private static final int SUM_IS_ODD = 2;
    private static final int ALL_SAME = 3;
    private static final int SOME_SHOWS = 4;
    private static final int OPPOSITE = 5;
    private static final int KINDS = 10;
    private static final int MOST_NUMBER = 36;

    private static final int MOST_OPEN = 12;
    private static final int MOST_STAKE = 100;
    private static final int MOST_WIN = 20;
    private static final int MOST_BASE = 10;
    private static final int MOST_HEDGE = 999;
    private static final int FAIR_STAKE = 100;

    /** Euclid's steps over two ints stay below 50. */
    private static final int MOST_DIVISOR_STEPS = 64;

    private static final long DIGEST_START = 2141;
    private static final long DIGEST_FACTOR = 31;
    private static final int DIGEST_NUMBER = 7;

    private final Dice dice = new Dice();
    private final ArrayList<Wager> wagers = new ArrayList<>();
    private final int[] purses = new int[PATRONS];
    private int bank = BANK_AT_FIRST;
    private int rounds;

    public TavernDice() {
        for (int patron = 0; patron < PATRONS; patron++) {
            purses[patron] = PURSE_AT_FIRST;
        }
    }

    // ---- dice

    public int setDice(int first, int second, int third) throws IllegalArgumentException, IllegalStateException {
        if (!isDie(first) || !isDieOrNone(second) || !isDieOrNone(third) || (second == 0 && third != 0)) {
            throw new IllegalArgumentException("no such dice");
        }
        if (!wagers.isEmpty()) {
            throw new IllegalStateException("wagers are open");
        }
        dice.layOut(first, second, third);
        return dice.outcomes;
    }

    public int dice() {
        return dice.count;
    }

    public int outcomes() {
        return dice.outcomes;
    }

    public int sumOf(int outcome) throws IndexOutOfBoundsException {
        checkOutcome(outcome);
        return dice.sums[outcome];
    }

    public int ways(int kind, int number) throws IllegalArgumentException {
        checkEvent(kind, number);
        return dice.countWays(kind, number);
    }

    public double chance(int kind, int number) throws IllegalArgumentException {
        checkEvent(kind, number);
        return (double) dice.countWays(kind, number) / (double) dice.outcomes;
    }

    // ---- wagers

    public int lay(int patron, int kind, int number, int stake, int win, int base)
            throws IndexOutOfBoundsException, IllegalArgumentException, IllegalStateException {
        checkPatron(patron);
        checkEvent(kind, number);
        if (stake < 1 || stake > MOST_STAKE) {
            throw new IllegalArgumentException("no such stake");
        }
        checkWin(win);
        checkBase(base);
        if (wagers.size() >= MOST_OPEN) {
            throw new IllegalStateException("too many wagers are open");
        }
        if (purses[patron] < stake) {
            throw new IllegalStateException("the purse has less than the stake");
        }
        purses[patron] -= stake;
        int ways = dice.countWays(kind, number);
        wagers.add(new Wager(patron, kind, number, stake, broughtBy(stake, win, base), ways));
        return wagers.size() - 1;
    }

    public int takeBack(int wager) throws IndexOutOfBoundsException {
        checkWager(wager);
        Wager taken = wagers.remove(wager);
        purses[taken.patron] += taken.stake;
        return taken.stake;
    }

    public int settle(int outcome) throws IndexOutOfBoundsException {
        checkOutcome(outcome);
        int gain = gainOfAll(outcome);
        for (int patron = 0; patron < PATRONS; patron++) {
            purses[patron] = purseBehind(patron, outcome);
        }
        bank += gain;
        wagers.clear();
        rounds++;
        return gain;
    }

    // ---- the ledger

    public int open() {
        return wagers.size();
    }

    public int bank() {
        return bank;
    }

    public int rounds() {
        return rounds;
    }

    public int purseOf(int patron) throws IndexOutOfBoundsException {
        checkPatron(patron);
        return purses[patron];
    }

    public int patronOf(int wager) throws IndexOutOfBoundsException {
        checkWager(wager);
        return wagers.get(wager).patron;
    }

    public int stakeOf(int wager) throws IndexOutOfBoundsException {
        checkWager(wager);
        return wagers.get(wager).stake;
    }

    public int bringsOf(int wager) throws IndexOutOfBoundsException {
        checkWager(wager);
        return wagers.get(wager).brings;
    }

    public int staked() {
        int all = 0;
        for (int i = 0; i < wagers.size(); i++) {
            all += wagers.get(i).stake;
        }
        return all;
    }

    // ---- edges

    public int edgeTop(int wager) throws IndexOutOfBoundsException {
        checkWager(wager);
        return lowestTop(gainOverOutcomes(wagers.get(wager)));
    }

    public int edgeBottom(int wager) throws IndexOutOfBoundsException {
        checkWager(wager);
        return lowestBottom(gainOverOutcomes(wagers.get(wager)));
    }

    public int allEdgesTop() {
        return lowestTop(gainOfAllOverOutcomes());
    }

    public int allEdgesBottom() {
        return lowestBottom(gainOfAllOverOutcomes());
    }

    public int dearestWager() {
        int dearest = -1;
        long dearestGain = 0;
        long dearestStake = 1;
        for (int i = 0; i < wagers.size(); i++) {
            Wager wager = wagers.get(i);
            long gain = gainOverOutcomes(wager);
            // Edges have one bottom before they are reduced, so gain / stake is compared, crosswise to stay exact.
            if (dearest < 0 || gain * dearestStake > dearestGain * wager.stake) {
                dearest = i;
                dearestGain = gain;
                dearestStake = wager.stake;
            }
        }
        return dearest;
    }

    // ---- what would be

    public int gainAt(int outcome) throws IndexOutOfBoundsException {
        checkOutcome(outcome);
        return gainOfAll(outcome);
    }

    public int worstGain() {
        return gainOfAll(worstOutcome());
    }

    public int worstOutcome() {
        int worst = 0;
        int least = gainOfAll(0);
        for (int outcome = 1; outcome < dice.outcomes; outcome++) {
            int gain = gainOfAll(outcome);
            if (gain < least) {
                least = gain;
                worst = outcome;
            }
        }
        return worst;
    }

    public int purseAt(int patron, int outcome) throws IndexOutOfBoundsException {
        checkPatron(patron);
        checkOutcome(outcome);
        return purseBehind(patron, outcome);
    }

    public int leastPurse(int patron) throws IndexOutOfBoundsException {
        checkPatron(patron);
        int least = purseBehind(patron, 0);
        for (int outcome = 1; outcome < dice.outcomes; outcome++) {
            least = Math.min(least, purseBehind(patron, outcome));
        }
        return least;
    }

    public boolean isHedged(int patron) throws IndexOutOfBoundsException {
        checkPatron(patron);
        int purse = purseBehind(patron, 0);
        for (int outcome = 1; outcome < dice.outcomes; outcome++) {
            if (purseBehind(patron, outcome) != purse) {
                return false;
            }
        }
        return true;
    }

    public int hedgeFor(int wager, int win, int base) throws IndexOutOfBoundsException, IllegalArgumentException {
        checkWager(wager);
        checkWin(win);
        checkBase(base);
        Wager hedged = wagers.get(wager);
        for (int stake = 1; stake <= MOST_HEDGE; stake++) {
            int ifItComes = hedged.brings - stake;
            int ifNot = broughtBy(stake, win, base) - hedged.stake;
            if (ifItComes == ifNot) {
                return stake;
            }
        }
        return -1;
    }

    public int fairWin(int kind, int number, int base) throws IllegalArgumentException {
        checkEvent(kind, number);
        checkBase(base);
        int ways = dice.countWays(kind, number);
        for (int win = MOST_WIN; win >= 1; win--) {
            if (dice.gainOver(FAIR_STAKE, broughtBy(FAIR_STAKE, win, base), ways) >= 0) {
                return win;
            }
        }
        return 0;
    }

    public long digest() {
        long d = digested(DIGEST_START, dice());
        d = digested(d, outcomes());
        d = digested(d, open());
        d = digested(d, bank());
        d = digested(d, rounds());
        d = digested(d, staked());
        d = digested(d, allEdgesTop());
        d = digested(d, allEdgesBottom());
        d = digested(d, dearestWager());
        d = digested(d, worstGain());
        d = digested(d, worstOutcome());
        d = digestOfWagers(d);
        d = digestOfPatrons(d);
        for (int kind = 0; kind < KINDS; kind++) {
            d = digested(d, dice.countWays(kind, DIGEST_NUMBER));
        }
        return d;
    }

    private long digestOfWagers(long start) {
        long d = start;
        for (int wager = 0; wager < wagers.size(); wager++) {
            d = digested(d, patronOf(wager));
            d = digested(d, stakeOf(wager));
            d = digested(d, bringsOf(wager));
            d = digested(d, edgeTop(wager));
            d = digested(d, edgeBottom(wager));
        }
        return d;
    }

    private long digestOfPatrons(long start) {
        long d = start;
        for (int patron = 0; patron < PATRONS; patron++) {
            d = digested(d, purseOf(patron));
            d = digested(d, leastPurse(patron));
            d = digested(d, isHedged(patron) ? 1 : 0);
        }
        return d;
    }

    private static long digested(long d, long x) {
        return d * DIGEST_FACTOR + x;
    }

    private int gainOfAll(int outcome) {
        int gain = 0;
        for (int i = 0; i < wagers.size(); i++) {
            Wager wager = wagers.get(i);
            gain += dice.comes(wager.kind, wager.number, outcome) ? -wager.brings : wager.stake;
        }
        return gain;
    }

    private int purseBehind(int patron, int outcome) {
        int purse = purses[patron];
        for (int i = 0; i < wagers.size(); i++) {
            Wager wager = wagers.get(i);
            if (wager.patron == patron && dice.comes(wager.kind, wager.number, outcome)) {
                purse += wager.stake + wager.brings;
            }
        }
        return purse;
    }

    private int gainOverOutcomes(Wager wager) {
        return dice.gainOver(wager.stake, wager.brings, wager.ways);
    }

    private int gainOfAllOverOutcomes() {
        int gain = 0;
        for (int i = 0; i < wagers.size(); i++) {
            gain += gainOverOutcomes(wagers.get(i));
        }
        return gain;
    }

    private int lowestTop(int gain) {
        return gain / commonDivisor(gain, dice.outcomes);
    }

    private int lowestBottom(int gain) {
        return dice.outcomes / commonDivisor(gain, dice.outcomes);
    }

    /** The greatest common divisor; 1 at least, so that it may always divide. */
    private static int commonDivisor(int top, int bottom) {
        int a = Math.abs(top);
        int b = bottom;
        for (int step = 0; b != 0 && step < MOST_DIVISOR_STEPS; step++) {
            int rest = a % b;
            a = b;
            b = rest;
        }
        return Math.max(a, 1);
    }

    /** The document has no base below 1, nor does any caller; the test is what keeps the division safe. */
    private static int broughtBy(int stake, int win, int base) {
        return base < 1 ? 0 : stake * win / base;
    }

    private static boolean isDie(int faces) {
        return faces >= LEAST_FACES && faces <= MOST_FACES;
    }

    private static boolean isDieOrNone(int faces) {
        return faces == 0 || isDie(faces);
    }

    private void checkOutcome(int outcome) {
        if (outcome < 0 || outcome >= dice.outcomes) {
            throw new IndexOutOfBoundsException("no such outcome");
        }
    }

    private void checkWager(int wager) {
        if (wager < 0 || wager >= wagers.size()) {
            throw new IndexOutOfBoundsException("no such wager");
        }
    }

    private static void checkPatron(int patron) {
        if (patron < 0 || patron >= PATRONS) {
            throw new IndexOutOfBoundsException("no such patron");
        }
    }

    private static void checkEvent(int kind, int number) {
        if (kind < 0 || kind >= KINDS || number < 0 || number > MOST_NUMBER) {
            throw new IllegalArgumentException("no such event");
        }
    }

    private static void checkWin(int win) {
        if (win < 1 || win > MOST_WIN) {
            throw new IllegalArgumentException("no such win");
        }
    }

    private static void checkBase(int base) {
        if (base < 1 || base > MOST_BASE) {
            throw new IllegalArgumentException("no such base");
        }
    }

    /** A wager keeps the ways of its event: no other dice are laid out while it is open. */
    private static final class Wager {
        final int patron;
        final int kind;
        final int number;
        final int stake;
        final int brings;
        final int ways;

        Wager(int patron, int kind, int number, int stake, int brings, int ways) {
            this.patron = patron;
            this.kind = kind;
            this.number = number;
            this.stake = stake;
            this.brings = brings;
            this.ways = ways;
        }
    }

    /** The dice with what each outcome shows, in rows made once for the most outcomes that there can be. */
    private static final class Dice {
        final int[] sums = new int[MOST_OUTCOMES];
        /** Bit f of an outcome is set if some die shows face f. */
        final int[] faces = new int[MOST_OUTCOMES];
        int count;
        int outcomes;

        Dice() {
            layOut(6, 6, 0);
        }

        void layOut(int first, int second, int third) {
            count = 1 + (second > 0 ? 1 : 0) + (third > 0 ? 1 : 0);
            outcomes = 0;
            // A die that is not there stands as one with nothing but a face 0.
            for (int a = 1; a <= first; a++) {
                for (int b = Math.min(1, second); b <= second; b++) {
                    for (int c = Math.min(1, third); c <= third; c++) {
                        addOutcome(a, b, c);
                    }
                }
            }
        }

        private void addOutcome(int a, int b, int c) {
            if (outcomes < MOST_OUTCOMES) {
                sums[outcomes] = a + b + c;
                faces[outcomes] = bitOf(a) | bitOf(b) | bitOf(c);
                outcomes++;
            }
        }

        /** A number that no die can show has no bit; without that, a shift by 32 or more would wrap around. */
        private static int bitOf(int face) {
            return face < 1 || face > MOST_FACES ? 0 : 1 << face;
        }

        boolean comes(int kind, int number, int outcome) {
            if (kind >= OPPOSITE) {
                return !holds(kind - OPPOSITE, number, outcome);
            }
            return holds(kind, number, outcome);
        }

        private boolean holds(int kind, int number, int outcome) {
            switch (kind) {
                case SUM_IS:
                    return sums[outcome] == number;
                case SUM_IS_OR_MORE:
                    return sums[outcome] >= number;
                case SUM_IS_ODD:
                    return sums[outcome] % 2 == 1;
                case ALL_SAME:
                    return Integer.bitCount(faces[outcome]) == 1;
                case SOME_SHOWS:
                    return (faces[outcome] & bitOf(number)) != 0;
                default:
                    return false;
            }
        }

        int countWays(int kind, int number) {
            int ways = 0;
            for (int outcome = 0; outcome < outcomes; outcome++) {
                if (comes(kind, number, outcome)) {
                    ways++;
                }
            }
            return ways;
        }

        /** What the house gains by a wager, added for all outcomes. */
        int gainOver(int stake, int brings, int ways) {
            return stake * (outcomes - ways) - brings * ways;
        }
    }
}
