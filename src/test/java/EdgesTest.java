/** Promises 19 to 23: edgeTop, edgeBottom, allEdgesTop, allEdgesBottom and dearestWager. */
final class EdgesTest {
    private final Check check = new Check();

    public static void main(String[] args) {
        EdgesTest test = new EdgesTest();
        test.edges();
        test.edgesOfThreeDice();
        test.edgesRefuse();
        test.allEdges();
        test.dearest();
        test.dearestIsComparedExactly();
        test.check.end();
    }

    private void edges() {
        TavernDice x = new TavernDice();
        x.lay(0, 0, 7, 30, 4, 1);
        edgeIs(x, 0, 5, 1);
        x.lay(1, 2, 0, 50, 1, 1);
        edgeIs(x, 1, 0, 1);
        x.lay(2, 4, 1, 11, 7, 3);
        edgeIs(x, 2, 0, 1);
        x.lay(2, 4, 1, 10, 2, 1);
        edgeIs(x, 3, 5, 6);
        x.lay(3, 0, 7, 10, 7, 1);
        edgeIs(x, 4, -10, 3);
        x.lay(3, 0, 1, 9, 20, 1);
        edgeIs(x, 5, 9, 1);
        x.lay(3, 1, 2, 9, 20, 1);
        edgeIs(x, 6, -180, 1);
        x.lay(4, 0, 12, 1, 1, 1);
        edgeIs(x, 7, 17, 18);
        x.lay(4, 0, 12, 1, 20, 1);
        edgeIs(x, 8, 5, 12);
        x.lay(4, 1, 0, 9, 1, 10);
        edgeIs(x, 9, 0, 1);
        x.takeBack(3);
        edgeIs(x, 3, -10, 3);
        x.settle(1);
        x.setDice(2, 0, 0);
        x.lay(4, 4, 1, 9, 1, 2);
        edgeIs(x, 0, 5, 2);
    }

    private void edgesOfThreeDice() {
        TavernDice x = new TavernDice();
        x.setDice(12, 12, 12);
        x.lay(0, 0, 36, 100, 1, 1);
        edgeIs(x, 0, 21575, 216);
        x.lay(1, 5, 36, 100, 20, 1);
        edgeIs(x, 1, -287825, 144);
        x.lay(2, 6, 0, 7, 20, 1);
        edgeIs(x, 2, 7, 1);
    }

    private void edgeIs(TavernDice x, int wager, int top, int bottom) {
        check.same("edgeTop(" + wager + ")", x.edgeTop(wager), top);
        check.same("edgeBottom(" + wager + ")", x.edgeBottom(wager), bottom);
    }

    private void edgesRefuse() {
        TavernDice x = new TavernDice();
        check.fails("edgeTop(0) of none", x, Check.INDEX, () -> x.edgeTop(0));
        check.fails("edgeBottom(0) of none", x, Check.INDEX, () -> x.edgeBottom(0));
        x.lay(0, 0, 7, 30, 4, 1);
        int[] wrong = {-1, 1, 12, Integer.MIN_VALUE, Integer.MAX_VALUE};
        for (int wager : wrong) {
            check.fails("edgeTop(" + wager + ")", x, Check.INDEX, () -> x.edgeTop(wager));
            check.fails("edgeBottom(" + wager + ")", x, Check.INDEX, () -> x.edgeBottom(wager));
        }
    }

    private void allEdges() {
        TavernDice x = new TavernDice();
        allEdgesAre(x, 0, 1);
        x.lay(0, 4, 1, 10, 2, 1);
        allEdgesAre(x, 5, 6);
        x.lay(0, 0, 7, 10, 7, 1);
        allEdgesAre(x, -5, 2);
        x.lay(0, 0, 12, 1, 1, 1);
        allEdgesAre(x, -14, 9);
        x.lay(1, 1, 0, 1, 1, 1);
        allEdgesAre(x, -23, 9);
        x.takeBack(1);
        allEdgesAre(x, 7, 9);
        x.settle(0);
        allEdgesAre(x, 0, 1);
        x.lay(1, 0, 7, 6, 4, 1);
        x.lay(2, 0, 7, 6, 6, 1);
        allEdgesAre(x, 0, 1);
        x.settle(0);
        x.setDice(12, 12, 12);
        x.settle(0);
        for (int patron = 2; patron < 6; patron++) {
            x.lay(patron, 1, 0, 90, 20, 1);
        }
        allEdgesAre(x, -7200, 1);
    }

    private void allEdgesAre(TavernDice x, int top, int bottom) {
        check.same("allEdgesTop()", x.allEdgesTop(), top);
        check.same("allEdgesBottom()", x.allEdgesBottom(), bottom);
    }

    private void dearest() {
        TavernDice x = new TavernDice();
        check.same("dearestWager() of none", x.dearestWager(), -1);
        x.lay(0, 1, 0, 50, 20, 1);
        check.same("dearestWager() of one with an edge below 0", x.dearestWager(), 0);
        x.lay(1, 1, 0, 50, 10, 1);
        check.same("dearestWager() of two below 0", x.dearestWager(), 1);
        x.lay(2, 2, 0, 50, 1, 1);
        check.same("dearestWager() with one of 0", x.dearestWager(), 2);
        x.lay(3, 0, 7, 100, 4, 1);
        check.same("dearestWager() with 1 / 6 for each", x.dearestWager(), 3);
        x.lay(4, 0, 7, 2, 1, 1);
        check.same("dearestWager() with 2 / 3 for each of a small stake", x.dearestWager(), 4);
        x.lay(4, 0, 7, 90, 1, 1);
        check.same("dearestWager() with 2 / 3 again", x.dearestWager(), 4);
        x.lay(5, 0, 1, 1, 20, 1);
        check.same("dearestWager() that never comes", x.dearestWager(), 6);
        x.lay(5, 0, 0, 99, 20, 1);
        check.same("dearestWager() that never comes either", x.dearestWager(), 6);
        x.takeBack(6);
        check.same("dearestWager() of what is left", x.dearestWager(), 6);
        x.takeBack(6);
        check.same("dearestWager() of what is left then", x.dearestWager(), 4);
        x.settle(0);
        check.same("dearestWager() behind", x.dearestWager(), -1);
    }

    private void dearestIsComparedExactly() {
        TavernDice x = new TavernDice();
        x.setDice(12, 12, 12);
        // Both come always: what they bring for each 1 of the stake tells, and cut to whole numbers it is the same.
        x.lay(0, 1, 0, 99, 1, 5);
        x.lay(1, 1, 0, 100, 1, 5);
        check.same("dearestWager() of -19 / 99 and -20 / 100", x.dearestWager(), 0);
        x.takeBack(0);
        x.lay(0, 1, 0, 99, 1, 5);
        check.same("dearestWager() of -20 / 100 and -19 / 99", x.dearestWager(), 1);
        x.takeBack(0);
        x.takeBack(0);
        x.lay(2, 0, 36, 3, 1, 2);
        x.lay(3, 0, 36, 4, 1, 2);
        check.same("dearestWager() of brings 1 of 3 and 2 of 4", x.dearestWager(), 0);
    }
}
