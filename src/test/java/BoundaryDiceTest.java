/** The boundary cases of dice and events, and of promises 1 to 7: each method tests one sentence. */
final class BoundaryDiceTest extends Sentences {
    public static void main(String[] args) {
        new BoundaryDiceTest().runAll();
    }

    private static TavernDice with(int first, int second, int third) {
        TavernDice x = new TavernDice();
        x.setDice(first, second, third);
        return x;
    }

    private void laysOut(int first, int second, int third, int outcomes) {
        TavernDice x = new TavernDice();
        check.same("setDice(" + first + ", " + second + ", " + third + ")", x.setDice(first, second, third), outcomes);
        check.same("outcomes() then", x.outcomes(), outcomes);
    }

    private void refuses(int first, int second, int third) {
        TavernDice x = with(4, 5, 0);
        check.fails("setDice(" + first + ", " + second + ", " + third + ")", x, Check.ARGUMENT,
            () -> x.setDice(first, second, third));
        check.same("dice() as they were", x.dice(), 2);
        check.same("outcomes() as they were", x.outcomes(), 20);
    }

    private void waysAre(TavernDice x, int kind, int number, int due) {
        check.same("ways(" + kind + ", " + number + ")", x.ways(kind, number), due);
    }

    // ---- Terms and promise 1

    /** "(two with six each, at first)", "of two dice with six faces". */
    void atFirstTwoDiceWithSixFaces() {
        TavernDice x = new TavernDice();
        check.same("dice()", x.dice(), 2);
        check.same("outcomes()", x.outcomes(), 36);
        check.same("sumOf(0)", x.sumOf(0), 2);
        check.same("sumOf(5)", x.sumOf(5), 7);
        check.same("sumOf(35)", x.sumOf(35), 12);
        waysAre(x, 4, 6, 11);
        waysAre(x, 4, 7, 0);
    }

    /** "Creates a ledger without wagers". */
    void atFirstNoWagers() {
        TavernDice x = new TavernDice();
        check.same("open()", x.open(), 0);
        check.same("staked()", x.staked(), 0);
        check.fails("stakeOf(0)", x, Check.INDEX, () -> x.stakeOf(0));
        check.fails("takeBack(0)", x, Check.INDEX, () -> x.takeBack(0));
    }

    /** "There are 1 to 3": a die that was there is gone again. */
    void oneToThreeDice() {
        TavernDice x = with(2, 0, 0);
        check.same("dice(), one", x.dice(), 1);
        x.setDice(2, 2, 2);
        check.same("dice(), three", x.dice(), 3);
        x.setDice(12, 12, 0);
        check.same("dice(), two", x.dice(), 2);
        x.setDice(12, 12, 12);
        check.same("dice(), three again", x.dice(), 3);
        x.setDice(12, 0, 0);
        check.same("dice(), one again", x.dice(), 1);
    }

    /** "numbered from 1": no die shows 0, each shows 1 and its last number, none shows more. */
    void facesAreNumberedFrom1() {
        TavernDice x = with(2, 0, 0);
        check.same("2: sumOf(0)", x.sumOf(0), 1);
        check.same("2: sumOf(1)", x.sumOf(1), 2);
        waysAre(x, 4, 0, 0);
        waysAre(x, 4, 1, 1);
        waysAre(x, 4, 2, 1);
        waysAre(x, 4, 3, 0);
        x.setDice(12, 12, 12);
        check.same("12, 12, 12: sumOf(0)", x.sumOf(0), 3);
        check.same("12, 12, 12: sumOf(1727)", x.sumOf(1727), 36);
        waysAre(x, 4, 0, 0);
        waysAre(x, 4, 1, 397);
        waysAre(x, 4, 12, 397);
        waysAre(x, 4, 13, 0);
    }

    /** "numbered from 0: by the face of the first die, then by that of the second one, then by that of the third". */
    void theLastDieTurnsFirst() {
        TavernDice x = with(2, 3, 4);
        int[][] rows = {{0, 3}, {3, 6}, {4, 4}, {7, 7}, {8, 5}, {11, 8}, {12, 4}, {15, 7}, {16, 5}, {22, 8}, {23, 9}};
        for (int[] row : rows) {
            check.same("2, 3, 4: sumOf(" + row[0] + ")", x.sumOf(row[0]), row[1]);
        }
        x.setDice(12, 2, 0);
        check.same("12, 2: sumOf(1), 1 and 2", x.sumOf(1), 3);
        check.same("12, 2: sumOf(2), 2 and 1", x.sumOf(2), 3);
        check.same("12, 2: sumOf(22), 12 and 1", x.sumOf(22), 13);
        x.setDice(2, 12, 0);
        check.same("2, 12: sumOf(11), 1 and 12", x.sumOf(11), 13);
        check.same("2, 12: sumOf(12), 2 and 1", x.sumOf(12), 3);
    }

    /** "then by that of the third one, if there is one": with one die the outcome is its face. */
    void oneDieGoesByItsFace() {
        TavernDice x = with(12, 0, 0);
        for (int face = 1; face <= 12; face++) {
            check.same("12: sumOf(" + (face - 1) + ")", x.sumOf(face - 1), face);
        }
    }

    // ---- Terms: events

    /** "0, the sum of all faces is the number": the least and the greatest sum, and one beside each. */
    void kind0AtTheLeastAndTheGreatestSum() {
        TavernDice x = new TavernDice();
        int[][] rows = {{0, 0}, {1, 0}, {2, 1}, {3, 2}, {11, 2}, {12, 1}, {13, 0}, {36, 0}};
        for (int[] row : rows) {
            waysAre(x, 0, row[0], row[1]);
        }
        x.setDice(12, 12, 12);
        waysAre(x, 0, 2, 0);
        waysAre(x, 0, 3, 1);
        waysAre(x, 0, 35, 3);
        waysAre(x, 0, 36, 1);
        x.setDice(2, 0, 0);
        waysAre(x, 0, 0, 0);
        waysAre(x, 0, 1, 1);
        waysAre(x, 0, 2, 1);
        waysAre(x, 0, 3, 0);
    }

    /** "1, it is the number or more": the number itself counts. */
    void kind1CountsTheNumberItself() {
        TavernDice x = new TavernDice();
        int[][] rows = {{0, 36}, {1, 36}, {2, 36}, {3, 35}, {11, 3}, {12, 1}, {13, 0}, {36, 0}};
        for (int[] row : rows) {
            waysAre(x, 1, row[0], row[1]);
        }
        x.setDice(12, 12, 12);
        waysAre(x, 1, 0, 1728);
        waysAre(x, 1, 3, 1728);
        waysAre(x, 1, 4, 1727);
        waysAre(x, 1, 36, 1);
    }

    /** "2, it is odd (whatever the number)". */
    void kind2WhateverTheNumber() {
        TavernDice x = new TavernDice();
        TavernDice odd = with(3, 3, 3);
        for (int number = 0; number <= 36; number++) {
            waysAre(x, 2, number, 18);
            waysAre(odd, 2, number, 14);
        }
        waysAre(with(2, 0, 0), 2, 0, 1);
        waysAre(with(3, 0, 0), 2, 0, 2);
    }

    /** "3, all dice show the same (likewise)": whatever the number, of three dice all three, of one always. */
    void kind3AllAndWhateverTheNumber() {
        TavernDice x = new TavernDice();
        for (int number = 0; number <= 36; number++) {
            waysAre(x, 3, number, 6);
        }
        waysAre(with(2, 2, 2), 3, 0, 2);
        waysAre(with(12, 12, 12), 3, 0, 12);
        waysAre(with(2, 12, 12), 3, 0, 2);
        waysAre(with(12, 12, 2), 3, 0, 2);
        waysAre(with(12, 2, 0), 3, 0, 2);
        waysAre(with(2, 0, 0), 3, 0, 2);
        waysAre(with(12, 0, 0), 3, 36, 12);
    }

    /** "4, some die shows the number": once or more often, and each die alone is enough. */
    void kind4SomeDieOnceOrMoreOften() {
        waysAre(with(6, 0, 0), 4, 6, 1);
        waysAre(with(6, 6, 0), 4, 6, 11);
        waysAre(with(6, 6, 6), 4, 6, 91);
        waysAre(with(12, 2, 2), 4, 12, 4);
        waysAre(with(2, 12, 2), 4, 12, 4);
        waysAre(with(2, 2, 12), 4, 12, 4);
        waysAre(with(3, 5, 0), 4, 4, 3);
    }

    /** "Events have a kind and a number, 0 to 36": a number that no die shows is no fault, and never comes. */
    void kind4OfANumberThatNoDieShows() {
        TavernDice x = with(12, 12, 12);
        waysAre(x, 4, 0, 0);
        waysAre(x, 9, 0, 1728);
        for (int number = 13; number <= 36; number++) {
            waysAre(x, 4, number, 0);
            waysAre(x, 9, number, 1728);
        }
    }

    /** "5 to 9, what the kind that is 5 less says does not come". */
    void kinds5To9AreTheOpposites() {
        TavernDice x = new TavernDice();
        int[][] rows = {{5, 2, 35}, {5, 0, 36}, {6, 12, 35}, {6, 2, 0}, {6, 0, 0}, {6, 36, 36}, {7, 0, 18}, {7, 36, 18},
            {8, 0, 30}, {8, 36, 30}, {9, 1, 25}, {9, 6, 25}, {9, 0, 36}, {9, 7, 36}};
        for (int[] row : rows) {
            waysAre(x, row[0], row[1], row[2]);
        }
        x.setDice(5, 0, 0);
        waysAre(x, 8, 0, 0);
        waysAre(x, 7, 0, 2);
    }

    // ---- Promise 2: setDice

    /** "if first is not 2 to 12". */
    void firstIs2To12() {
        laysOut(2, 0, 0, 2);
        laysOut(12, 0, 0, 12);
        laysOut(2, 6, 6, 72);
        laysOut(12, 6, 6, 432);
        int[] wrong = {-12, -2, -1, 0, 1, 13, 14};
        for (int faces : wrong) {
            refuses(faces, 0, 0);
            refuses(faces, 6, 0);
            refuses(faces, 6, 6);
        }
        for (int far : FAR) {
            refuses(far, 6, 6);
        }
    }

    /** "second ... is neither 0 nor 2 to 12". */
    void secondIs0Or2To12() {
        laysOut(6, 0, 0, 6);
        laysOut(6, 2, 0, 12);
        laysOut(6, 12, 0, 72);
        laysOut(6, 2, 6, 72);
        laysOut(6, 12, 6, 432);
        int[] wrong = {-12, -2, -1, 1, 13, 14};
        for (int faces : wrong) {
            refuses(6, faces, 0);
            refuses(6, faces, 6);
        }
        for (int far : FAR) {
            refuses(6, far, 0);
        }
    }

    /** "third is neither 0 nor 2 to 12". */
    void thirdIs0Or2To12() {
        laysOut(6, 6, 0, 36);
        laysOut(6, 6, 2, 72);
        laysOut(6, 6, 12, 432);
        int[] wrong = {-12, -2, -1, 1, 13, 14};
        for (int faces : wrong) {
            refuses(6, 6, faces);
        }
        for (int far : FAR) {
            refuses(6, 6, far);
        }
    }

    /** "or second is 0 and third is not". */
    void noThirdWithoutASecond() {
        refuses(6, 0, 2);
        refuses(6, 0, 6);
        refuses(6, 0, 12);
        refuses(6, 0, 1);
        laysOut(6, 0, 0, 6);
    }

    /** "IllegalStateException if some wager is open": one is enough, twelve too, and the same dice as well. */
    void noOtherDiceWhileAWagerIsOpen() {
        TavernDice x = new TavernDice();
        x.lay(5, 0, 7, 1, 1, 1);
        check.fails("setDice with one open", x, Check.STATE, () -> x.setDice(6, 6, 6));
        check.fails("setDice with the same dice", x, Check.STATE, () -> x.setDice(6, 6, 0));
        x.lay(5, 0, 7, 1, 1, 1);
        x.takeBack(1);
        check.fails("setDice with one left", x, Check.STATE, () -> x.setDice(6, 6, 6));
        for (int i = 1; i < 12; i++) {
            x.lay(0, 0, 7, 1, 1, 1);
        }
        check.fails("setDice with twelve open", x, Check.STATE, () -> x.setDice(2, 0, 0));
        check.same("outcomes()", x.outcomes(), 36);
    }

    /** The same sentence from its other side: other dice as soon as none is open. */
    void otherDiceAsSoonAsNoWagerIsOpen() {
        TavernDice x = new TavernDice();
        x.lay(5, 0, 7, 1, 1, 1);
        x.takeBack(0);
        check.same("setDice, all taken back", x.setDice(6, 6, 6), 216);
        x.lay(5, 0, 7, 1, 1, 1);
        x.settle(215);
        check.same("setDice, all settled", x.setDice(2, 0, 0), 2);
        check.same("purseOf(5)", x.purseOf(5), 99);
        check.same("bank()", x.bank(), 501);
        check.same("rounds()", x.rounds(), 1);
    }

    /** "Returns how many outcomes there are then": the least and the most. */
    void fewestAndMostOutcomes() {
        laysOut(2, 0, 0, 2);
        laysOut(12, 12, 12, 1728);
        TavernDice x = with(12, 12, 12);
        check.same("setDice(2, 0, 0) behind the most", x.setDice(2, 0, 0), 2);
        check.same("setDice(12, 12, 12) behind the fewest", x.setDice(12, 12, 12), 1728);
    }

    // ---- Promise 5: sumOf

    /** "IndexOutOfBoundsException if there is no such outcome". */
    void sumOfRefusesNoSuchOutcome() {
        TavernDice x = new TavernDice();
        int[] wrong = {-1, 36, 37, 1727, 1728};
        for (int outcome : wrong) {
            check.fails("sumOf(" + outcome + ")", x, Check.INDEX, () -> x.sumOf(outcome));
        }
        for (int far : FAR) {
            check.fails("sumOf(" + far + ")", x, Check.INDEX, () -> x.sumOf(far));
        }
        TavernDice most = with(12, 12, 12);
        check.same("12, 12, 12: sumOf(1727)", most.sumOf(1727), 36);
        check.fails("12, 12, 12: sumOf(1728)", most, Check.INDEX, () -> most.sumOf(1728));
        check.fails("12, 12, 12: sumOf(-1)", most, Check.INDEX, () -> most.sumOf(-1));
    }

    /** The same sentence with other dice: an outcome of former dice is none, and one of new dice is one. */
    void sumOfGoesByTheDiceThatLieOut() {
        TavernDice x = with(12, 12, 12);
        x.setDice(2, 0, 0);
        check.same("2: sumOf(1)", x.sumOf(1), 2);
        check.fails("2: sumOf(2)", x, Check.INDEX, () -> x.sumOf(2));
        check.fails("2: sumOf(35)", x, Check.INDEX, () -> x.sumOf(35));
        x.setDice(2, 2, 0);
        check.same("2, 2: sumOf(3)", x.sumOf(3), 4);
        check.fails("2, 2: sumOf(4)", x, Check.INDEX, () -> x.sumOf(4));
    }

    // ---- Promises 6 and 7: ways and chance

    /** "IllegalArgumentException if kind is not 0 to 9", of ways. */
    void waysRefusesAKindThatIsNone() {
        TavernDice x = new TavernDice();
        waysAre(x, 0, 7, 6);
        waysAre(x, 9, 7, 36);
        int[] wrong = {-5, -1, 10, 11, 14};
        for (int kind : wrong) {
            check.fails("ways(" + kind + ", 7)", x, Check.ARGUMENT, () -> x.ways(kind, 7));
        }
        for (int far : FAR) {
            check.fails("ways(" + far + ", 7)", x, Check.ARGUMENT, () -> x.ways(far, 7));
        }
    }

    /** "or number is not 0 to 36", of ways: for each kind, those too whose number says nothing. */
    void waysRefusesANumberThatIsNone() {
        TavernDice x = new TavernDice();
        int[] of0 = {0, 36, 18, 6, 0, 36, 0, 18, 30, 36};
        int[] of36 = {0, 0, 18, 6, 0, 36, 36, 18, 30, 36};
        for (int k = 0; k <= 9; k++) {
            int kind = k;
            waysAre(x, kind, 0, of0[kind]);
            waysAre(x, kind, 36, of36[kind]);
            check.fails("ways(" + kind + ", -1)", x, Check.ARGUMENT, () -> x.ways(kind, -1));
            check.fails("ways(" + kind + ", 37)", x, Check.ARGUMENT, () -> x.ways(kind, 37));
        }
        for (int far : FAR) {
            check.fails("ways(4, " + far + ")", x, Check.ARGUMENT, () -> x.ways(4, far));
        }
    }

    /** "IllegalArgumentException if kind is not 0 to 9", of chance. */
    void chanceRefusesAKindThatIsNone() {
        TavernDice x = new TavernDice();
        check.same("chance(0, 7)", x.chance(0, 7), 6.0 / 36.0);
        check.same("chance(9, 6)", x.chance(9, 6), 25.0 / 36.0);
        int[] wrong = {-5, -1, 10, 11, 14};
        for (int kind : wrong) {
            check.fails("chance(" + kind + ", 7)", x, Check.ARGUMENT, () -> x.chance(kind, 7));
        }
        for (int far : FAR) {
            check.fails("chance(" + far + ", 7)", x, Check.ARGUMENT, () -> x.chance(far, 7));
        }
    }

    /** "or number is not 0 to 36", of chance. */
    void chanceRefusesANumberThatIsNone() {
        TavernDice x = new TavernDice();
        check.same("chance(6, 0)", x.chance(6, 0), 0.0);
        check.same("chance(6, 36)", x.chance(6, 36), 1.0);
        for (int k = 0; k <= 9; k++) {
            int kind = k;
            check.fails("chance(" + kind + ", -1)", x, Check.ARGUMENT, () -> x.chance(kind, -1));
            check.fails("chance(" + kind + ", 37)", x, Check.ARGUMENT, () -> x.chance(kind, 37));
        }
        for (int far : FAR) {
            check.fails("chance(4, " + far + ")", x, Check.ARGUMENT, () -> x.chance(4, far));
        }
    }

    /** "Returns its ways, divided by all outcomes": nothing and all, the least above nothing, and no cut. */
    void chanceFromNothingToAll() {
        TavernDice x = with(12, 12, 12);
        check.same("chance(0, 0)", x.chance(0, 0), 0.0);
        check.same("chance(0, 36)", x.chance(0, 36), 1.0 / 1728.0);
        check.same("chance(5, 36)", x.chance(5, 36), 1727.0 / 1728.0);
        check.same("chance(1, 0)", x.chance(1, 0), 1.0);
        x.setDice(2, 0, 0);
        check.same("chance(2, 0)", x.chance(2, 0), 0.5);
        x.setDice(3, 0, 0);
        check.same("chance(4, 3)", x.chance(4, 3), 1.0 / 3.0);
    }
}
