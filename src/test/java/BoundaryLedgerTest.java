import java.util.function.IntConsumer;

/** The boundary cases of promises 11 to 18, and of an object's 512 calls: each method tests one sentence. */
final class BoundaryLedgerTest extends Sentences {
    public static void main(String[] args) {
        new BoundaryLedgerTest().runAll();
    }

    private static TavernDice withTwelve() {
        TavernDice x = new TavernDice();
        for (int i = 0; i < 12; i++) {
            x.lay(i % 6, 0, 7, 40 + i, i + 1, 2);
        }
        return x;
    }

    private void refusesWager(TavernDice x, int wager) {
        String[] names = {"patronOf", "stakeOf", "bringsOf"};
        IntConsumer[] calls = {x::patronOf, x::stakeOf, x::bringsOf};
        for (int i = 0; i < names.length; i++) {
            IntConsumer call = calls[i];
            check.fails(names[i] + "(" + wager + ") of " + x.open(), x, Check.INDEX, () -> call.accept(wager));
        }
    }

    // ---- What it is

    /** "used for at most 512 calls after it has been made": the 512th is answered still. */
    void thrownUpToThe512thCall() {
        TavernDice x = new TavernDice();
        for (int i = 0; i < 511; i++) {
            x.settle(i % 36);
        }
        check.same("rounds(), the 512th call", x.rounds(), 511);
    }

    /** The same sentence, as the bank goes down the farthest: what the numbers come to has room. */
    void poorestHouseWithin512Calls() {
        TavernDice x = new TavernDice();
        int calls = 0;
        for (int patron = 0; patron < 6; patron++) {
            x.lay(patron, 1, 0, 100, 20, 1);
            calls++;
        }
        check.same("settle(0) of six", x.settle(0), -12000);
        calls++;
        for (int round = 0; round < 38; round++) {
            for (int i = 0; i < 12; i++) {
                check.same("lay", x.lay(i % 6, 1, 0, 100, 20, 1), i);
                calls++;
            }
            check.same("settle(35) of twelve", x.settle(35), -24000);
            calls++;
        }
        check.same("calls", calls, 501);
        check.same("bank()", x.bank(), 500 - 12000 - 38 * 24000);
        for (int patron = 0; patron < 6; patron++) {
            check.same("purseOf(" + patron + ")", x.purseOf(patron), 2100 + 38 * 4000);
        }
        check.same("rounds()", x.rounds(), 39);
        check.same("leastPurse(5)", x.leastPurse(5), 154100);
        check.same("purseAt(5, 35)", x.purseAt(5, 35), 154100);
        check.same("isHedged(5), the 511th call", x.isHedged(5), true);
    }

    // ---- Promises 11 to 13: open, bank and rounds

    /** "Returns how many wagers are open": from none to twelve, and back to none. */
    void openFromNoneToTwelve() {
        TavernDice x = new TavernDice();
        for (int i = 0; i < 12; i++) {
            check.same("open()", x.open(), i);
            x.lay(0, 0, 7, 1, 1, 1);
        }
        check.same("open() of all", x.open(), 12);
        for (int left = 11; left >= 0; left--) {
            x.takeBack(left / 2);
            check.same("open() behind takeBack", x.open(), left);
        }
        x.lay(0, 0, 7, 1, 1, 1);
        x.settle(0);
        check.same("open() behind settle", x.open(), 0);
    }

    /** "Returns the bank, without the stakes that are kept apart": with the most that can be apart at first. */
    void bankWithoutStakesKeptApart() {
        TavernDice x = new TavernDice();
        for (int patron = 0; patron < 6; patron++) {
            x.lay(patron, 0, 7, 100, 1, 1);
        }
        check.same("bank() with 600 apart", x.bank(), 500);
        x.takeBack(0);
        check.same("bank() behind takeBack", x.bank(), 500);
        x.settle(0);
        check.same("bank() behind settle", x.bank(), 1000);
    }

    /** "Returns how often dice were thrown": not at first, once a settle, never otherwise. */
    void roundsCountThrowsAlone() {
        TavernDice x = new TavernDice();
        check.same("rounds() at first", x.rounds(), 0);
        x.lay(0, 0, 7, 1, 1, 1);
        x.gainAt(0);
        x.purseAt(0, 0);
        x.worstGain();
        x.takeBack(0);
        x.setDice(2, 0, 0);
        check.same("rounds() ahead of a throw", x.rounds(), 0);
        x.settle(0);
        check.same("rounds() of one", x.rounds(), 1);
        check.fails("settle(2)", x, Check.INDEX, () -> x.settle(2));
        check.same("rounds() behind a refusal", x.rounds(), 1);
        x.settle(1);
        check.same("rounds() of two", x.rounds(), 2);
    }

    // ---- Promise 14: purseOf

    /** "IndexOutOfBoundsException if patron is not 0 to 5". */
    void purseOfTakesPatrons0To5() {
        TavernDice x = new TavernDice();
        x.lay(0, 0, 7, 30, 1, 1);
        x.lay(5, 0, 7, 80, 1, 1);
        check.same("purseOf(0)", x.purseOf(0), 70);
        check.same("purseOf(5)", x.purseOf(5), 20);
        int[] wrong = {-6, -1, 6, 7, 12};
        for (int patron : wrong) {
            check.fails("purseOf(" + patron + ")", x, Check.INDEX, () -> x.purseOf(patron));
        }
        for (int far : FAR) {
            check.fails("purseOf(" + far + ")", x, Check.INDEX, () -> x.purseOf(far));
        }
    }

    /** "Returns the purse": empty, with 1, and above what it had at first. */
    void purseOfFromNothingToMoreThanAtFirst() {
        TavernDice x = new TavernDice();
        x.lay(1, 1, 0, 99, 20, 1);
        check.same("purseOf(1) of 1", x.purseOf(1), 1);
        x.lay(1, 1, 0, 1, 20, 1);
        check.same("purseOf(1) of nothing", x.purseOf(1), 0);
        x.settle(0);
        check.same("purseOf(1) of the most", x.purseOf(1), 2100);
    }

    // ---- Promises 15 to 17: patronOf, stakeOf and bringsOf

    /** "IndexOutOfBoundsException if there is no such wager": without any, all numbers. */
    void ofAWagerWithoutAny() {
        TavernDice x = new TavernDice();
        int[] wrong = {-1, 0, 1, 11, 12};
        for (int wager : wrong) {
            refusesWager(x, wager);
        }
    }

    /** The same sentence, with one: number 0 alone. */
    void ofAWagerWithOne() {
        TavernDice x = new TavernDice();
        x.lay(5, 0, 7, 100, 20, 1);
        check.same("patronOf(0)", x.patronOf(0), 5);
        check.same("stakeOf(0)", x.stakeOf(0), 100);
        check.same("bringsOf(0)", x.bringsOf(0), 2000);
        int[] wrong = {-1, 1, 2, 12};
        for (int wager : wrong) {
            refusesWager(x, wager);
        }
        for (int far : FAR) {
            refusesWager(x, far);
        }
    }

    /** The same sentence, with twelve: 0 and 11, and one beside each. */
    void ofAWagerWithTwelve() {
        TavernDice x = withTwelve();
        check.same("patronOf(0)", x.patronOf(0), 0);
        check.same("patronOf(11)", x.patronOf(11), 5);
        check.same("stakeOf(0)", x.stakeOf(0), 40);
        check.same("stakeOf(11)", x.stakeOf(11), 51);
        check.same("bringsOf(0)", x.bringsOf(0), 20);
        check.same("bringsOf(11)", x.bringsOf(11), 306);
        int[] wrong = {-1, 12, 13};
        for (int wager : wrong) {
            refusesWager(x, wager);
        }
    }

    /** The same sentence: a number that was one is none behind takeBack, and none is one behind settle. */
    void ofAWagerThatIsOpenNoMore() {
        TavernDice x = withTwelve();
        x.takeBack(3);
        refusesWager(x, 11);
        check.same("stakeOf(10)", x.stakeOf(10), 51);
        x.settle(0);
        refusesWager(x, 10);
        refusesWager(x, 0);
    }

    // ---- Promise 18: staked

    /** "Returns the stakes of all open wagers, added": of none, of one, and of twelve with the most. */
    void stakedFromNothingToTheMost() {
        TavernDice x = new TavernDice();
        check.same("staked() of none", x.staked(), 0);
        x.lay(0, 1, 0, 1, 20, 1);
        check.same("staked() of the least", x.staked(), 1);
        x.takeBack(0);
        for (int patron = 0; patron < 6; patron++) {
            x.lay(patron, 1, 0, 100, 20, 1);
        }
        check.same("staked() of six", x.staked(), 600);
        x.settle(0);
        check.same("staked() behind settle", x.staked(), 0);
        for (int i = 0; i < 12; i++) {
            x.lay(i % 6, 1, 0, 100, 20, 1);
        }
        check.same("staked() of twelve", x.staked(), 1200);
        x.takeBack(11);
        check.same("staked() of eleven", x.staked(), 1100);
    }
}
