/** Promises 24 to 32: gainAt, worstGain, worstOutcome, purseAt, leastPurse, isHedged, hedgeFor, fairWin and digest. */
final class WhatWouldBeTest {
    private final Check check = new Check();

    public static void main(String[] args) {
        WhatWouldBeTest test = new WhatWouldBeTest();
        test.gains();
        test.worst();
        test.purses();
        test.eachOutcomeCounts();
        test.hedged();
        test.refusesOutcomesAndPatrons();
        test.hedgeFor();
        test.hedgeForAtTheEdges();
        test.hedgeForRefuses();
        test.fairWin();
        test.fairWinRefuses();
        test.digestOfANewObject();
        test.digestOfALedger();
        test.check.end();
    }

    private static TavernDice withThree() {
        TavernDice x = new TavernDice();
        x.lay(0, 0, 7, 30, 4, 1);
        x.lay(0, 3, 0, 20, 2, 1);
        x.lay(1, 4, 6, 10, 1, 2);
        return x;
    }

    private void gains() {
        TavernDice x = withThree();
        check.same("gainAt(0), 1 and 1", x.gainAt(0), 30 - 40 + 10);
        check.same("gainAt(1), 1 and 2", x.gainAt(1), 30 + 20 + 10);
        check.same("gainAt(5), 1 and 6", x.gainAt(5), -120 + 20 - 5);
        check.same("gainAt(10), 2 and 5", x.gainAt(10), -120 + 20 + 10);
        check.same("gainAt(35), 6 and 6", x.gainAt(35), 30 - 40 - 5);
        check.same("open() after gainAt", x.open(), 3);
        check.same("rounds() after gainAt", x.rounds(), 0);
        check.same("bank() after gainAt", x.bank(), 500);
        check.same("settle(5) as gainAt told", x.settle(5), -105);
        check.same("gainAt(5) without wagers", x.gainAt(5), 0);
    }

    private void worst() {
        TavernDice x = new TavernDice();
        check.same("worstGain() of none", x.worstGain(), 0);
        check.same("worstOutcome() of none", x.worstOutcome(), 0);
        x = withThree();
        check.same("worstGain()", x.worstGain(), -105);
        check.same("worstOutcome(), of 5 and 30", x.worstOutcome(), 5);
        x.takeBack(2);
        check.same("worstGain() of two", x.worstGain(), -100);
        check.same("worstOutcome() of two", x.worstOutcome(), 5);
        x.takeBack(0);
        check.same("worstGain() of one", x.worstGain(), -40);
        check.same("worstOutcome() of one", x.worstOutcome(), 0);
        x.takeBack(0);
        x.lay(0, 0, 12, 10, 1, 1);
        check.same("worstGain() of the last outcome", x.worstGain(), -10);
        check.same("worstOutcome() that is the last", x.worstOutcome(), 35);
        x.takeBack(0);
        x.lay(0, 0, 1, 10, 1, 1);
        check.same("worstGain() above 0", x.worstGain(), 10);
        check.same("worstOutcome() of all the same", x.worstOutcome(), 0);
    }

    private void purses() {
        TavernDice x = withThree();
        check.same("purseAt(0, 0)", x.purseAt(0, 0), 50 + 60);
        check.same("purseAt(0, 1)", x.purseAt(0, 1), 50);
        check.same("purseAt(0, 5)", x.purseAt(0, 5), 50 + 150);
        check.same("purseAt(1, 5)", x.purseAt(1, 5), 90 + 15);
        check.same("purseAt(1, 0)", x.purseAt(1, 0), 90);
        check.same("purseAt(2, 35)", x.purseAt(2, 35), 100);
        check.same("leastPurse(0)", x.leastPurse(0), 50);
        check.same("leastPurse(1)", x.leastPurse(1), 90);
        check.same("leastPurse(5)", x.leastPurse(5), 100);
        x.lay(2, 1, 0, 100, 1, 10);
        check.same("leastPurse(2) with what always comes", x.leastPurse(2), 110);
        x.lay(3, 5, 2, 60, 1, 1);
        x.lay(3, 0, 2, 40, 1, 2);
        check.same("leastPurse(3), less with the first outcome", x.leastPurse(3), 60);
        x.lay(4, 5, 12, 60, 1, 1);
        check.same("leastPurse(4), less with the last outcome", x.leastPurse(4), 40);
        check.same("purseOf(0) after purseAt", x.purseOf(0), 50);
        x.settle(0);
        check.same("purseOf(0) as purseAt told", x.purseOf(0), 110);
        check.same("purseAt(0, 9) without wagers", x.purseAt(0, 9), 110);
        check.same("leastPurse(0) without wagers", x.leastPurse(0), 110);
    }

    private void eachOutcomeCounts() {
        TavernDice x = new TavernDice();
        x.setDice(12, 12, 12);
        check.same("worstOutcome() of the most outcomes", x.worstOutcome(), 0);
        check.same("leastPurse(0) of the most outcomes", x.leastPurse(0), 100);
        check.same("isHedged(0) of the most outcomes", x.isHedged(0), true);
        x.setDice(2, 0, 0);
        x.lay(0, 0, 2, 10, 1, 1);
        check.same("worstOutcome() that is the second", x.worstOutcome(), 1);
        check.same("isHedged(0), not with the second", x.isHedged(0), false);
        x.lay(1, 0, 1, 10, 1, 1);
        x.lay(2, 0, 3, 10, 20, 1);
        check.same("worstGain(), never with what a former die showed", x.worstGain(), 10);
        check.same("leastPurse(1), less with the second", x.leastPurse(1), 90);
        check.same("leastPurse(2), not more with what a former die showed", x.leastPurse(2), 90);
        check.same("isHedged(2), a former die apart", x.isHedged(2), true);
    }

    private void hedged() {
        TavernDice x = new TavernDice();
        check.same("isHedged(0) of none", x.isHedged(0), true);
        x.lay(0, 2, 0, 50, 1, 1);
        check.same("isHedged(0) of one", x.isHedged(0), false);
        check.same("isHedged(1) of none", x.isHedged(1), true);
        x.lay(1, 7, 0, 50, 1, 1);
        check.same("isHedged(0) with another's", x.isHedged(0), false);
        x.lay(0, 7, 0, 50, 1, 1);
        check.same("isHedged(0) of both", x.isHedged(0), true);
        x.lay(2, 1, 2, 50, 1, 1);
        check.same("isHedged(2) with what always comes", x.isHedged(2), true);
        x.lay(3, 0, 1, 50, 1, 1);
        check.same("isHedged(3) with what never comes", x.isHedged(3), true);
        x.lay(4, 0, 12, 50, 1, 1);
        check.same("isHedged(4) but for the last outcome", x.isHedged(4), false);
        x.lay(5, 0, 2, 50, 1, 1);
        check.same("isHedged(5) but for the first outcome", x.isHedged(5), false);
        x.settle(0);
        check.same("isHedged(5) behind", x.isHedged(5), true);
    }

    private void refusesOutcomesAndPatrons() {
        TavernDice x = withThree();
        int[] outcomes = {-1, 36, Integer.MIN_VALUE, Integer.MAX_VALUE};
        for (int outcome : outcomes) {
            check.fails("gainAt(" + outcome + ")", x, Check.INDEX, () -> x.gainAt(outcome));
            check.fails("purseAt(0, " + outcome + ")", x, Check.INDEX, () -> x.purseAt(0, outcome));
        }
        int[] patrons = {-1, 6, Integer.MIN_VALUE, Integer.MAX_VALUE};
        for (int patron : patrons) {
            check.fails("purseAt(" + patron + ", 0)", x, Check.INDEX, () -> x.purseAt(patron, 0));
            check.fails("leastPurse(" + patron + ")", x, Check.INDEX, () -> x.leastPurse(patron));
            check.fails("isHedged(" + patron + ")", x, Check.INDEX, () -> x.isHedged(patron));
        }
    }

    private void hedgeFor() {
        TavernDice x = new TavernDice();
        x.lay(0, 0, 7, 30, 4, 1);
        check.same("hedgeFor(0, 1, 4)", x.hedgeFor(0, 1, 4), 120);
        check.same("hedgeFor(0, 1, 1)", x.hedgeFor(0, 1, 1), 75);
        check.same("hedgeFor(0, 20, 1)", x.hedgeFor(0, 20, 1), -1);
        check.same("hedgeFor(0, 2, 1)", x.hedgeFor(0, 2, 1), 50);
        check.same("purseOf(0)", x.purseOf(0), 70);
        check.same("open()", x.open(), 1);
        x.lay(1, 2, 0, 9, 1, 2);
        check.same("hedgeFor(1, 2, 1) of 13", x.hedgeFor(1, 2, 1), -1);
        check.same("hedgeFor(1, 3, 7), cut from 12 to 14", x.hedgeFor(1, 3, 7), -1);
        check.same("hedgeFor(1, 1, 2), 9 and 4", x.hedgeFor(1, 1, 2), 9);
        check.same("hedgeFor(1, 1, 10), 12 and 1", x.hedgeFor(1, 1, 10), 12);
        x.lay(1, 7, 0, 9, 1, 2);
        check.same("isHedged(1) with that", x.isHedged(1), true);
    }

    private void hedgeForAtTheEdges() {
        TavernDice x = new TavernDice();
        x.lay(0, 0, 7, 1, 1, 1);
        check.same("hedgeFor, the least stake", x.hedgeFor(0, 1, 1), 1);
        check.same("hedgeFor, a stake that brings nothing", x.hedgeFor(0, 1, 3), 2);
        x.lay(1, 0, 7, 1, 1, 10);
        check.same("hedgeFor, a total of 1", x.hedgeFor(1, 1, 2), 1);
        check.same("hedgeFor, a total of 1 at 1 to 1", x.hedgeFor(1, 1, 1), -1);
        x.lay(2, 0, 7, 74, 17, 2);
        check.same("hedgeFor, a total of 703, between 702 and 704", x.hedgeFor(2, 1, 10), -1);
        x.lay(3, 0, 7, 90, 10, 1);
        check.same("hedgeFor, a total of 990", x.hedgeFor(3, 1, 10), 900);
        x.lay(4, 0, 7, 54, 19, 1);
        check.same("hedgeFor, a total of 1080", x.hedgeFor(4, 1, 10), 982);
        x.lay(5, 0, 7, 61, 17, 1);
        check.same("hedgeFor, a total of 1098", x.hedgeFor(5, 1, 10), 999);
        x.takeBack(5);
        x.lay(5, 0, 7, 100, 10, 1);
        check.same("hedgeFor, a total of 1100", x.hedgeFor(5, 1, 10), -1);
    }

    private void hedgeForRefuses() {
        TavernDice x = new TavernDice();
        check.fails("hedgeFor(0, 1, 1) of none", x, Check.INDEX, () -> x.hedgeFor(0, 1, 1));
        x.lay(0, 0, 7, 30, 4, 1);
        int[] wagers = {-1, 1, Integer.MIN_VALUE, Integer.MAX_VALUE};
        for (int wager : wagers) {
            check.fails("hedgeFor(" + wager + ", 1, 1)", x, Check.INDEX, () -> x.hedgeFor(wager, 1, 1));
            check.fails("hedgeFor(" + wager + ", 0, 0)", x, Check.INDEX, () -> x.hedgeFor(wager, 0, 0));
        }
        int[][] odds = {{0, 1}, {21, 1}, {-1, 1}, {1, 0}, {1, 11}, {1, -1}, {Integer.MIN_VALUE, 1},
            {1, Integer.MIN_VALUE}, {Integer.MAX_VALUE, 1}, {1, Integer.MAX_VALUE}};
        for (int[] odd : odds) {
            check.fails("hedgeFor(0, " + odd[0] + ", " + odd[1] + ")", x, Check.ARGUMENT,
                () -> x.hedgeFor(0, odd[0], odd[1]));
        }
    }

    private void fairWin() {
        TavernDice x = new TavernDice();
        check.same("fairWin(0, 7, 1)", x.fairWin(0, 7, 1), 5);
        check.same("fairWin(0, 7, 2)", x.fairWin(0, 7, 2), 10);
        check.same("fairWin(3, 0, 2)", x.fairWin(3, 0, 2), 10);
        check.same("fairWin(0, 1, 1), which never comes", x.fairWin(0, 1, 1), 20);
        check.same("fairWin(1, 0, 10), which always comes", x.fairWin(1, 0, 10), 0);
        check.same("fairWin(2, 0, 1)", x.fairWin(2, 0, 1), 1);
        check.same("fairWin(2, 0, 10)", x.fairWin(2, 0, 10), 10);
        check.same("fairWin(5, 7, 1), 1 is too much", x.fairWin(5, 7, 1), 0);
        check.same("fairWin(5, 7, 5)", x.fairWin(5, 7, 5), 1);
        check.same("fairWin(0, 12, 1), 20 is not too much", x.fairWin(0, 12, 1), 20);
        check.same("fairWin(4, 6, 3), 300 * 25 / 11 / 100", x.fairWin(4, 6, 3), 6);
        check.same("fairWin(4, 6, 9), 100 * 20 / 9 is 222", x.fairWin(4, 6, 9), 20);
        check.same("fairWin(5, 6, 6), 16 is fair and 16 2/3 were not", x.fairWin(5, 6, 6), 1);
        x.setDice(3, 0, 0);
        check.same("fairWin(1, 2, 6), 300 / 6 is 50", x.fairWin(1, 2, 6), 3);
        check.same("fairWin(1, 2, 9)", x.fairWin(1, 2, 9), 4);
        check.same("fairWin(0, 2, 10)", x.fairWin(0, 2, 10), 20);
        x.setDice(9, 9, 0);
        // It comes with 28 of 81, and the others bring the house 5300: 28 times 190 is 20 too much.
        check.same("fairWin(1, 12, 10)", x.fairWin(1, 12, 10), 18);
        x.setDice(12, 12, 12);
        // It comes with 397 of 1728, so it may bring 335: at 10 to 3 it brings 333, at 11 to 3 366.
        check.same("fairWin(4, 1, 3)", x.fairWin(4, 1, 3), 10);
        check.same("purses are left as they were", x.purseOf(0), 100);
    }

    private void fairWinRefuses() {
        TavernDice x = new TavernDice();
        int[][] wrong = {{-1, 0, 1}, {10, 0, 1}, {0, -1, 1}, {0, 37, 1}, {0, 0, 0}, {0, 0, 11}, {0, 0, -1},
            {0, 0, Integer.MIN_VALUE}, {0, 0, Integer.MAX_VALUE}, {Integer.MAX_VALUE, 0, 1}};
        for (int[] w : wrong) {
            check.fails("fairWin(" + w[0] + ", " + w[1] + ", " + w[2] + ")", x, Check.ARGUMENT,
                () -> x.fairWin(w[0], w[1], w[2]));
        }
    }

    private void digestOfANewObject() {
        long due = digestOf(new long[] {2, 36, 0, 500, 0, 0, 0, 1, -1, 0, 0,
            100, 100, 1, 100, 100, 1, 100, 100, 1, 100, 100, 1, 100, 100, 1, 100, 100, 1,
            6, 21, 18, 6, 0, 30, 15, 18, 30, 36});
        TavernDice x = new TavernDice();
        check.same("digest() of a new object", x.digest(), due);
        check.same("digest() again", x.digest(), due);
    }

    private void digestOfALedger() {
        TavernDice x = withThree();
        x.settle(5);
        x.lay(0, 0, 7, 30, 4, 1);
        x.lay(2, 7, 0, 10, 1, 1);
        long due = digestOf(new long[] {2, 36, 2, 395, 1, 40, 5, 1, 0, -110, 5,
            0, 30, 120, 5, 1,
            2, 10, 10, 0, 1,
            170, 170, 0, 105, 105, 1, 90, 90, 0, 100, 100, 1, 100, 100, 1, 100, 100, 1,
            6, 21, 18, 6, 0, 30, 15, 18, 30, 36});
        check.same("purse ahead", x.purseOf(0), 170);
        check.same("digest() of a ledger", x.digest(), due);
    }

    private static long digestOf(long[] numbers) {
        long d = 2141;
        for (long x : numbers) {
            d = d * 31 + x;
        }
        return d;
    }
}
