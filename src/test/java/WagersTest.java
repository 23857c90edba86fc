/** Promises 8 to 10: lay, takeBack and settle. */
final class WagersTest {
    private final Check check = new Check();

    public static void main(String[] args) {
        WagersTest test = new WagersTest();
        test.lay();
        test.layAtTheEdges();
        test.layRefusesPatrons();
        test.layRefusesArguments();
        test.layRefusesStates();
        test.layNamesTheFirstException();
        test.takeBack();
        test.takeBackRefuses();
        test.settle();
        test.settleEveryKind();
        test.settleWithoutWagers();
        test.settleRefuses();
        test.check.end();
    }

    private void lay() {
        TavernDice x = new TavernDice();
        check.same("lay", x.lay(2, 0, 7, 30, 4, 1), 0);
        check.same("lay again", x.lay(2, 5, 7, 70, 1, 4), 1);
        check.same("lay of another", x.lay(5, 3, 0, 11, 7, 3), 2);
        check.same("purseOf(2)", x.purseOf(2), 0);
        check.same("purseOf(5)", x.purseOf(5), 89);
        check.same("purseOf(0)", x.purseOf(0), 100);
        check.same("bank() keeps stakes apart", x.bank(), 500);
        check.same("open()", x.open(), 3);
        check.same("staked()", x.staked(), 111);
        check.same("bringsOf(0)", x.bringsOf(0), 120);
        check.same("bringsOf(1)", x.bringsOf(1), 17);
        check.same("bringsOf(2)", x.bringsOf(2), 25);
    }

    private void layAtTheEdges() {
        TavernDice x = new TavernDice();
        check.same("lay the least", x.lay(0, 0, 0, 1, 1, 1), 0);
        check.same("lay the most", x.lay(5, 9, 36, 100, 20, 10), 1);
        check.same("lay 99 of 99", x.lay(0, 4, 6, 99, 20, 1), 2);
        check.same("bringsOf the least", x.bringsOf(0), 1);
        check.same("bringsOf the most", x.bringsOf(1), 200);
        check.same("bringsOf 99 at 20 to 1", x.bringsOf(2), 1980);
        check.same("lay at 1 to 10", x.lay(1, 4, 6, 9, 1, 10), 3);
        check.same("bringsOf 9 at 1 to 10", x.bringsOf(3), 0);
        for (int i = 4; i < 12; i++) {
            check.same("lay " + i, x.lay(2, 2, 0, 1, 1, 1), i);
        }
        check.same("open() when full", x.open(), 12);
    }

    private void layRefusesPatrons() {
        TavernDice x = new TavernDice();
        int[] wrong = {-1, 6, Integer.MIN_VALUE, Integer.MAX_VALUE};
        for (int patron : wrong) {
            check.fails("lay, patron " + patron, x, Check.INDEX, () -> x.lay(patron, 0, 7, 10, 1, 1));
        }
    }

    private void layRefusesArguments() {
        TavernDice x = new TavernDice();
        int[][] wrong = {{-1, 7, 10, 1, 1}, {10, 7, 10, 1, 1}, {0, -1, 10, 1, 1}, {0, 37, 10, 1, 1}, {0, 7, 0, 1, 1},
            {0, 7, -1, 1, 1}, {0, 7, 101, 1, 1}, {0, 7, 10, 0, 1}, {0, 7, 10, 21, 1}, {0, 7, 10, 1, 0},
            {0, 7, 10, 1, 11}, {0, 7, 10, -1, 1}, {0, 7, 10, 1, -1}, {0, 7, Integer.MIN_VALUE, 1, 1},
            {0, 7, Integer.MAX_VALUE, 1, 1}, {0, 7, 10, Integer.MIN_VALUE, 1}, {0, 7, 10, Integer.MAX_VALUE, 1},
            {0, 7, 10, 1, Integer.MIN_VALUE}, {0, 7, 10, 1, Integer.MAX_VALUE}};
        for (int[] w : wrong) {
            check.fails("lay(0, " + w[0] + ", " + w[1] + ", " + w[2] + ", " + w[3] + ", " + w[4] + ")", x,
                Check.ARGUMENT, () -> x.lay(0, w[0], w[1], w[2], w[3], w[4]));
        }
    }

    private void layRefusesStates() {
        TavernDice x = new TavernDice();
        x.lay(0, 0, 7, 60, 1, 1);
        check.fails("lay 41 of 40", x, Check.STATE, () -> x.lay(0, 0, 7, 41, 1, 1));
        check.same("lay 40 of 40", x.lay(0, 0, 7, 40, 1, 1), 1);
        check.fails("lay 1 of 0", x, Check.STATE, () -> x.lay(0, 0, 7, 1, 1, 1));
        for (int i = 2; i < 12; i++) {
            x.lay(1, 0, 7, 1, 1, 1);
        }
        check.fails("lay a 13th", x, Check.STATE, () -> x.lay(2, 0, 7, 1, 1, 1));
        x.takeBack(5);
        check.same("lay a 12th", x.lay(2, 0, 7, 1, 1, 1), 11);
    }

    private void layNamesTheFirstException() {
        TavernDice x = new TavernDice();
        check.fails("lay, patron and kind wrong", x, Check.INDEX, () -> x.lay(6, 10, 37, 0, 0, 0));
        x.lay(0, 0, 7, 100, 1, 1);
        check.fails("lay, patron wrong, base wrong", x, Check.INDEX, () -> x.lay(-1, 0, 7, 100, 1, 0));
        check.fails("lay, base wrong, purse empty", x, Check.ARGUMENT, () -> x.lay(0, 0, 7, 1, 1, 0));
        check.fails("lay, stake wrong, purse empty", x, Check.ARGUMENT, () -> x.lay(0, 0, 7, 101, 1, 1));
        for (int i = 1; i < 12; i++) {
            x.lay(1, 0, 7, 1, 1, 1);
        }
        check.fails("lay, full, patron wrong", x, Check.INDEX, () -> x.lay(6, 0, 7, 1, 1, 1));
        check.fails("lay, full, win wrong", x, Check.ARGUMENT, () -> x.lay(2, 0, 7, 1, 21, 1));
    }

    private void takeBack() {
        TavernDice x = new TavernDice();
        x.lay(0, 0, 2, 10, 1, 1);
        x.lay(1, 1, 3, 20, 2, 1);
        x.lay(0, 2, 4, 30, 3, 1);
        x.lay(3, 3, 5, 40, 4, 1);
        check.same("takeBack(1)", x.takeBack(1), 20);
        check.same("purseOf(1)", x.purseOf(1), 100);
        check.same("purseOf(0)", x.purseOf(0), 60);
        check.same("open()", x.open(), 3);
        check.same("bank()", x.bank(), 500);
        check.same("rounds()", x.rounds(), 0);
        check.same("patronOf(0)", x.patronOf(0), 0);
        check.same("stakeOf(0)", x.stakeOf(0), 10);
        check.same("stakeOf(1)", x.stakeOf(1), 30);
        check.same("bringsOf(1)", x.bringsOf(1), 90);
        check.same("patronOf(2)", x.patronOf(2), 3);
        check.same("stakeOf(2)", x.stakeOf(2), 40);
        check.same("takeBack the last", x.takeBack(2), 40);
        check.same("takeBack the first", x.takeBack(0), 10);
        check.same("stakeOf(0) of what is left", x.stakeOf(0), 30);
        check.same("takeBack what is left", x.takeBack(0), 30);
        check.same("purseOf(0) in the end", x.purseOf(0), 100);
        check.same("purseOf(3) in the end", x.purseOf(3), 100);
        check.same("open() in the end", x.open(), 0);
    }

    private void takeBackRefuses() {
        TavernDice x = new TavernDice();
        check.fails("takeBack(0) of none", x, Check.INDEX, () -> x.takeBack(0));
        x.lay(0, 0, 2, 10, 1, 1);
        int[] wrong = {-1, 1, 12, Integer.MIN_VALUE, Integer.MAX_VALUE};
        for (int wager : wrong) {
            check.fails("takeBack(" + wager + ")", x, Check.INDEX, () -> x.takeBack(wager));
        }
    }

    private void settle() {
        TavernDice x = new TavernDice();
        x.lay(0, 0, 7, 30, 4, 1);
        x.lay(1, 5, 7, 40, 1, 4);
        x.lay(0, 4, 6, 11, 7, 3);
        check.same("settle(5), which shows 1 and 6", x.settle(5), -120 + 40 - 25);
        check.same("bank()", x.bank(), 395);
        check.same("purseOf(0)", x.purseOf(0), 100 + 120 + 25);
        check.same("purseOf(1)", x.purseOf(1), 60);
        check.same("open()", x.open(), 0);
        check.same("staked()", x.staked(), 0);
        check.same("rounds()", x.rounds(), 1);
        x.lay(1, 0, 2, 60, 20, 1);
        check.same("settle(0)", x.settle(0), -1200);
        check.same("bank() below 0", x.bank(), -805);
        check.same("purseOf(1) with the stake back", x.purseOf(1), 1260);
        x.lay(1, 0, 2, 100, 20, 1);
        check.same("settle(1)", x.settle(1), 100);
        check.same("bank() gets the stake", x.bank(), -705);
        check.same("rounds() of three", x.rounds(), 3);
    }

    private void settleEveryKind() {
        // Outcome 8 of two dice with six faces shows 2 and 3: the sum is 5.
        int[][] comes = {{0, 5}, {1, 5}, {1, 4}, {2, 0}, {4, 2}, {4, 3}, {8, 0}, {6, 6}, {5, 4}, {9, 1}};
        int[][] doesNot = {{0, 4}, {1, 6}, {3, 0}, {4, 5}, {4, 1}, {5, 5}, {6, 5}, {7, 0}, {9, 2}, {9, 3}};
        for (int[] event : comes) {
            check.same("settle of " + event[0] + ", " + event[1], gainOfOne(event, 8), -20);
        }
        for (int[] event : doesNot) {
            check.same("settle of " + event[0] + ", " + event[1], gainOfOne(event, 8), 10);
        }
    }

    private int gainOfOne(int[] event, int outcome) {
        TavernDice x = new TavernDice();
        x.lay(4, event[0], event[1], 10, 2, 1);
        int gain = x.settle(outcome);
        check.same("purse behind", x.purseOf(4), 100 - gain);
        check.same("bank behind", x.bank(), 500 + gain);
        return gain;
    }

    private void settleWithoutWagers() {
        TavernDice x = new TavernDice();
        check.same("settle(35)", x.settle(35), 0);
        check.same("settle(0)", x.settle(0), 0);
        check.same("rounds()", x.rounds(), 2);
        check.same("bank()", x.bank(), 500);
    }

    private void settleRefuses() {
        TavernDice x = new TavernDice();
        x.lay(0, 0, 2, 10, 1, 1);
        int[] wrong = {-1, 36, Integer.MIN_VALUE, Integer.MAX_VALUE};
        for (int outcome : wrong) {
            check.fails("settle(" + outcome + ")", x, Check.INDEX, () -> x.settle(outcome));
        }
        x.takeBack(0);
        x.setDice(2, 0, 0);
        check.fails("settle(2) of two outcomes", x, Check.INDEX, () -> x.settle(2));
    }
}
