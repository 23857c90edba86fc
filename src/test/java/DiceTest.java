/** Promises 1 to 7: a new object, setDice, dice, outcomes, sumOf, ways and chance. */
final class DiceTest {
    private static final int[] FAR = {Integer.MIN_VALUE, -1000, Integer.MAX_VALUE};

    private final Check check = new Check();

    public static void main(String[] args) {
        DiceTest test = new DiceTest();
        test.newObject();
        test.setDice();
        test.setDiceRefuses();
        test.setDiceWithOpenWagers();
        test.diceAndOutcomes();
        test.sumOf();
        test.sumOfRefuses();
        test.waysOfTwoDice();
        test.waysOfOneDie();
        test.waysOfThreeDice();
        test.waysOfNumbersThatNoDieShows();
        test.waysRefuses();
        test.chance();
        test.check.end();
    }

    private void newObject() {
        TavernDice x = new TavernDice();
        check.same("new: dice()", x.dice(), 2);
        check.same("new: outcomes()", x.outcomes(), 36);
        check.same("new: open()", x.open(), 0);
        check.same("new: bank()", x.bank(), 500);
        check.same("new: rounds()", x.rounds(), 0);
        check.same("new: staked()", x.staked(), 0);
        check.same("new: sumOf(35)", x.sumOf(35), 12);
        for (int patron = 0; patron < 6; patron++) {
            check.same("new: purseOf(" + patron + ")", x.purseOf(patron), 100);
        }
    }

    private void setDice() {
        TavernDice x = new TavernDice();
        check.same("setDice(2, 0, 0)", x.setDice(2, 0, 0), 2);
        check.same("setDice(12, 0, 0)", x.setDice(12, 0, 0), 12);
        check.same("setDice(3, 5, 0)", x.setDice(3, 5, 0), 15);
        check.same("setDice(2, 2, 2)", x.setDice(2, 2, 2), 8);
        check.same("setDice(12, 12, 12)", x.setDice(12, 12, 12), 1728);
        check.same("setDice(4, 6, 8)", x.setDice(4, 6, 8), 192);
        check.same("setDice(7, 0, 0)", x.setDice(7, 0, 0), 7);
    }

    private void setDiceRefuses() {
        int[][] wrong = {{1, 0, 0}, {0, 0, 0}, {13, 0, 0}, {-1, 6, 6}, {0, 6, 6}, {6, 1, 0}, {6, 13, 0}, {6, -2, 0},
            {6, 6, 1}, {6, 6, 13}, {6, 6, -6}, {6, 0, 6}, {6, 0, 2}, {6, 0, 1}};
        TavernDice x = new TavernDice();
        x.setDice(4, 5, 0);
        for (int[] w : wrong) {
            check.fails("setDice(" + w[0] + ", " + w[1] + ", " + w[2] + ")", x, Check.ARGUMENT,
                () -> x.setDice(w[0], w[1], w[2]));
        }
        for (int far : FAR) {
            check.fails("setDice far first", x, Check.ARGUMENT, () -> x.setDice(far, 6, 6));
            check.fails("setDice far second", x, Check.ARGUMENT, () -> x.setDice(6, far, 6));
            check.fails("setDice far third", x, Check.ARGUMENT, () -> x.setDice(6, 6, far));
        }
        check.same("outcomes() after refusals", x.outcomes(), 20);
    }

    private void setDiceWithOpenWagers() {
        TavernDice x = new TavernDice();
        x.lay(0, 0, 7, 10, 1, 1);
        check.fails("setDice with a wager", x, Check.STATE, () -> x.setDice(6, 6, 6));
        check.fails("setDice with the same dice and a wager", x, Check.STATE, () -> x.setDice(6, 6, 0));
        check.fails("setDice, wrong both ways", x, Check.ARGUMENT, () -> x.setDice(1, 6, 6));
        x.takeBack(0);
        check.same("setDice after takeBack", x.setDice(6, 6, 6), 216);
        x.lay(0, 0, 7, 10, 1, 1);
        x.settle(0);
        check.same("setDice after settle", x.setDice(8, 0, 0), 8);
    }

    private void diceAndOutcomes() {
        TavernDice x = new TavernDice();
        int[][] rows = {{5, 0, 0, 1, 5}, {5, 7, 0, 2, 35}, {5, 7, 2, 3, 70}, {12, 0, 0, 1, 12}};
        for (int[] row : rows) {
            x.setDice(row[0], row[1], row[2]);
            check.same("dice() of " + row[0] + ", " + row[1] + ", " + row[2], x.dice(), row[3]);
            check.same("outcomes() of " + row[0] + ", " + row[1] + ", " + row[2], x.outcomes(), row[4]);
        }
    }

    private void sumOf() {
        TavernDice x = new TavernDice();
        check.same("sumOf(0)", x.sumOf(0), 2);
        check.same("sumOf(5)", x.sumOf(5), 7);
        check.same("sumOf(6)", x.sumOf(6), 3);
        check.same("sumOf(35)", x.sumOf(35), 12);
        x.setDice(2, 3, 4);
        int outcome = 0;
        for (int a = 1; a <= 2; a++) {
            for (int b = 1; b <= 3; b++) {
                for (int c = 1; c <= 4; c++) {
                    check.same("2, 3, 4: sumOf(" + outcome + ")", x.sumOf(outcome), a + b + c);
                    outcome++;
                }
            }
        }
        x.setDice(9, 0, 0);
        for (int face = 1; face <= 9; face++) {
            check.same("9: sumOf", x.sumOf(face - 1), face);
        }
        x.setDice(12, 2, 0);
        check.same("12, 2: sumOf(3)", x.sumOf(3), 4);
        check.same("12, 2: sumOf(23)", x.sumOf(23), 14);
    }

    private void sumOfRefuses() {
        TavernDice x = new TavernDice();
        check.fails("sumOf(-1)", x, Check.INDEX, () -> x.sumOf(-1));
        check.fails("sumOf(36)", x, Check.INDEX, () -> x.sumOf(36));
        x.setDice(12, 12, 12);
        check.fails("sumOf(1728)", x, Check.INDEX, () -> x.sumOf(1728));
        x.setDice(3, 0, 0);
        check.fails("sumOf(3)", x, Check.INDEX, () -> x.sumOf(3));
        for (int far : FAR) {
            check.fails("sumOf(" + far + ")", x, Check.INDEX, () -> x.sumOf(far));
        }
    }

    private void waysOfTwoDice() {
        TavernDice x = new TavernDice();
        int[] sums = {0, 0, 1, 2, 3, 4, 5, 6, 5, 4, 3, 2, 1, 0};
        int orMore = 36;
        for (int number = 0; number < sums.length; number++) {
            bothWays(x, 0, number, sums[number]);
            bothWays(x, 1, number, orMore);
            orMore -= sums[number];
            bothWays(x, 2, number, 18);
            bothWays(x, 3, number, 6);
            bothWays(x, 4, number, number >= 1 && number <= 6 ? 11 : 0);
        }
        x.setDice(3, 5, 0);
        bothWays(x, 2, 0, 7);
        bothWays(x, 3, 0, 3);
        bothWays(x, 4, 3, 7);
        bothWays(x, 4, 5, 3);
    }

    private void waysOfOneDie() {
        TavernDice x = new TavernDice();
        x.setDice(5, 0, 0);
        bothWays(x, 0, 0, 0);
        bothWays(x, 0, 1, 1);
        bothWays(x, 0, 5, 1);
        bothWays(x, 0, 6, 0);
        bothWays(x, 1, 4, 2);
        bothWays(x, 2, 0, 3);
        bothWays(x, 3, 0, 5);
        bothWays(x, 4, 0, 0);
        bothWays(x, 4, 5, 1);
        bothWays(x, 4, 6, 0);
    }

    private void waysOfThreeDice() {
        TavernDice x = new TavernDice();
        x.setDice(12, 12, 12);
        bothWays(x, 0, 36, 1);
        bothWays(x, 0, 3, 1);
        bothWays(x, 0, 19, 108);
        bothWays(x, 1, 36, 1);
        bothWays(x, 1, 3, 1728);
        bothWays(x, 1, 35, 4);
        bothWays(x, 2, 36, 864);
        bothWays(x, 3, 36, 12);
        bothWays(x, 4, 12, 397);
        bothWays(x, 4, 13, 0);
        x.setDice(3, 3, 3);
        bothWays(x, 2, 7, 14);
        x.setDice(2, 4, 6);
        bothWays(x, 3, 0, 2);
        bothWays(x, 4, 1, 33);
        bothWays(x, 4, 6, 8);
    }

    private void waysOfNumbersThatNoDieShows() {
        TavernDice x = new TavernDice();
        x.setDice(12, 12, 0);
        for (int number = 13; number <= 36; number++) {
            bothWays(x, 4, number, 0);
        }
        bothWays(x, 4, 0, 0);
    }

    private void bothWays(TavernDice x, int kind, int number, int due) {
        check.same("ways(" + kind + ", " + number + ")", x.ways(kind, number), due);
        check.same("ways(" + (kind + 5) + ", " + number + ")", x.ways(kind + 5, number), x.outcomes() - due);
    }

    private void waysRefuses() {
        TavernDice x = new TavernDice();
        int[][] wrong = {{-1, 0}, {10, 0}, {0, -1}, {0, 37}, {9, 37}, {2, 37}, {3, -1}, {Integer.MIN_VALUE, 7},
            {Integer.MAX_VALUE, 7}, {4, Integer.MIN_VALUE}, {4, Integer.MAX_VALUE}, {10, 37}};
        for (int[] w : wrong) {
            check.fails("ways(" + w[0] + ", " + w[1] + ")", x, Check.ARGUMENT, () -> x.ways(w[0], w[1]));
            check.fails("chance(" + w[0] + ", " + w[1] + ")", x, Check.ARGUMENT, () -> x.chance(w[0], w[1]));
        }
        check.same("ways(9, 36)", x.ways(9, 36), 36);
        check.same("ways(0, 0)", x.ways(0, 0), 0);
    }

    private void chance() {
        TavernDice x = new TavernDice();
        check.same("chance(0, 7)", x.chance(0, 7), 6.0 / 36.0);
        check.same("chance(0, 0)", x.chance(0, 0), 0.0);
        check.same("chance(1, 0)", x.chance(1, 0), 1.0);
        check.same("chance(5, 7)", x.chance(5, 7), 30.0 / 36.0);
        check.same("chance(9, 36)", x.chance(9, 36), 1.0);
        x.setDice(12, 12, 12);
        check.same("chance(4, 5)", x.chance(4, 5), 0.22974537037037038);
        x.setDice(7, 0, 0);
        check.same("chance(0, 3)", x.chance(0, 3), 1.0 / 7.0);
    }
}
