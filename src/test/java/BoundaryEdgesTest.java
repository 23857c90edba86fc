/** The boundary cases of edges, and of promises 19 to 23: each method tests one sentence. */
final class BoundaryEdgesTest extends Sentences {
    public static void main(String[] args) {
        new BoundaryEdgesTest().runAll();
    }

    /** Four numbers for the event and the odds, and the edge that is due. */
    private void edgeIs(TavernDice x, int[] event, int stake, int[] odds, int top, int bottom) {
        String call = "a wager of " + stake + " on " + event[0] + ", " + event[1] + " at " + odds[0] + " to " + odds[1];
        int wager = x.lay(5, event[0], event[1], stake, odds[0], odds[1]);
        check.same(call + ", edgeTop", x.edgeTop(wager), top);
        check.same(call + ", edgeBottom", x.edgeBottom(wager), bottom);
        x.takeBack(wager);
    }

    private static int[] event(int kind, int number) {
        return new int[] {kind, number};
    }

    private static int[] odds(int win, int base) {
        return new int[] {win, base};
    }

    private void allEdgesAre(String of, TavernDice x, int top, int bottom) {
        check.same("allEdgesTop() of " + of, x.allEdgesTop(), top);
        check.same("allEdgesBottom() of " + of, x.allEdgesBottom(), bottom);
    }

    // ---- Terms, and promises 19 and 20: edgeTop and edgeBottom

    /** "(0 is told as 0 and 1)". */
    void anEdgeOf0Is0And1() {
        TavernDice x = new TavernDice();
        edgeIs(x, event(2, 0), 50, odds(1, 1), 0, 1);
        edgeIs(x, event(0, 7), 1, odds(5, 1), 0, 1);
        edgeIs(x, event(1, 0), 9, odds(1, 10), 0, 1);
        x.setDice(12, 12, 12);
        edgeIs(x, event(2, 0), 50, odds(1, 1), 0, 1);
        edgeIs(x, event(1, 0), 1, odds(1, 2), 0, 1);
    }

    /** "that have no divisor in common but 1": all, some and none of the outcomes' divisors go out. */
    void noDivisorInCommonBut1() {
        TavernDice x = new TavernDice();
        edgeIs(x, event(0, 12), 36, odds(1, 1), 34, 1);
        edgeIs(x, event(4, 1), 10, odds(2, 1), 5, 6);
        edgeIs(x, event(0, 12), 1, odds(1, 1), 17, 18);
        edgeIs(x, event(0, 12), 1, odds(6, 1), 29, 36);
        x.setDice(12, 12, 12);
        edgeIs(x, event(0, 36), 1, odds(4, 1), 1723, 1728);
        edgeIs(x, event(0, 36), 2, odds(4, 1), 1723, 864);
        edgeIs(x, event(0, 36), 64, odds(4, 1), 1723, 27);
        edgeIs(x, event(0, 36), 27, odds(4, 1), 1723, 64);
        x.setDice(7, 11, 0);
        edgeIs(x, event(0, 2), 1, odds(1, 1), 75, 77);
        edgeIs(x, event(0, 3), 1, odds(2, 1), 71, 77);
    }

    /** "the bottom greater than 0": with an edge below 0 the top is below it. */
    void theBottomIsGreaterThan0() {
        TavernDice x = new TavernDice();
        edgeIs(x, event(0, 7), 10, odds(7, 1), -10, 3);
        edgeIs(x, event(0, 7), 1, odds(6, 1), -1, 6);
        edgeIs(x, event(5, 12), 1, odds(2, 1), -23, 12);
        edgeIs(x, event(5, 12), 3, odds(2, 1), -23, 4);
        x.setDice(12, 12, 12);
        edgeIs(x, event(5, 36), 1, odds(20, 1), -11513, 576);
    }

    /** "added for all outcomes": an event that comes with none, and one that comes with each. */
    void anEventThatNeverOrAlwaysComes() {
        TavernDice x = new TavernDice();
        edgeIs(x, event(0, 1), 1, odds(20, 1), 1, 1);
        edgeIs(x, event(0, 1), 100, odds(20, 1), 100, 1);
        edgeIs(x, event(1, 2), 1, odds(1, 1), -1, 1);
        edgeIs(x, event(1, 2), 100, odds(20, 1), -2000, 1);
        x.setDice(12, 12, 12);
        edgeIs(x, event(1, 3), 100, odds(20, 1), -2000, 1);
        edgeIs(x, event(6, 3), 100, odds(20, 1), 100, 1);
        x.setDice(2, 0, 0);
        edgeIs(x, event(4, 2), 1, odds(20, 1), -19, 2);
        edgeIs(x, event(3, 2), 1, odds(20, 1), -20, 1);
    }

    /** "as much less than nothing as it brings": what it brings is cut ahead of the edge. */
    void whatItBringsIsCutAheadOfTheEdge() {
        TavernDice x = new TavernDice();
        edgeIs(x, event(2, 0), 9, odds(1, 10), 9, 2);
        edgeIs(x, event(2, 0), 10, odds(1, 10), 9, 2);
        edgeIs(x, event(2, 0), 11, odds(1, 10), 5, 1);
    }

    /** "IndexOutOfBoundsException if there is no such wager", of edgeTop. */
    void edgeTopRefusesNoSuchWager() {
        TavernDice x = new TavernDice();
        check.fails("edgeTop(0) of none", x, Check.INDEX, () -> x.edgeTop(0));
        check.fails("edgeTop(-1) of none", x, Check.INDEX, () -> x.edgeTop(-1));
        for (int i = 0; i < 12; i++) {
            x.lay(i % 6, 0, 1, i + 1, 1, 1);
        }
        check.same("edgeTop(0) of 12", x.edgeTop(0), 1);
        check.same("edgeTop(11) of 12", x.edgeTop(11), 12);
        int[] wrong = {-1, 12, 13};
        for (int wager : wrong) {
            check.fails("edgeTop(" + wager + ") of 12", x, Check.INDEX, () -> x.edgeTop(wager));
        }
        for (int far : FAR) {
            check.fails("edgeTop(" + far + ") of 12", x, Check.INDEX, () -> x.edgeTop(far));
        }
        x.takeBack(0);
        check.same("edgeTop(0) of 11", x.edgeTop(0), 2);
        check.fails("edgeTop(11) of 11", x, Check.INDEX, () -> x.edgeTop(11));
        x.settle(0);
        check.fails("edgeTop(0) behind settle", x, Check.INDEX, () -> x.edgeTop(0));
    }

    /** "IndexOutOfBoundsException if there is no such wager", of edgeBottom. */
    void edgeBottomRefusesNoSuchWager() {
        TavernDice x = new TavernDice();
        check.fails("edgeBottom(0) of none", x, Check.INDEX, () -> x.edgeBottom(0));
        check.fails("edgeBottom(-1) of none", x, Check.INDEX, () -> x.edgeBottom(-1));
        for (int i = 0; i < 12; i++) {
            x.lay(i % 6, i % 2 == 0 ? 0 : 5, 12, 1, 1, 1);
        }
        check.same("edgeBottom(0) of 12", x.edgeBottom(0), 18);
        check.same("edgeBottom(11) of 12", x.edgeBottom(11), 18);
        int[] wrong = {-1, 12, 13};
        for (int wager : wrong) {
            check.fails("edgeBottom(" + wager + ") of 12", x, Check.INDEX, () -> x.edgeBottom(wager));
        }
        for (int far : FAR) {
            check.fails("edgeBottom(" + far + ") of 12", x, Check.INDEX, () -> x.edgeBottom(far));
        }
        x.takeBack(0);
        check.fails("edgeBottom(11) of 11", x, Check.INDEX, () -> x.edgeBottom(11));
        x.settle(0);
        check.fails("edgeBottom(0) behind settle", x, Check.INDEX, () -> x.edgeBottom(0));
    }

    // ---- Promises 21 and 22: allEdgesTop and allEdgesBottom

    /** "(0 is told as 0 and 1)", of all edges: without any wager, and behind takeBack and settle. */
    void allEdgesWithoutWagers() {
        TavernDice x = new TavernDice();
        allEdgesAre("none", x, 0, 1);
        x.lay(0, 0, 12, 1, 1, 1);
        allEdgesAre("one", x, 17, 18);
        x.takeBack(0);
        allEdgesAre("none, taken back", x, 0, 1);
        x.lay(0, 0, 12, 1, 1, 1);
        x.settle(0);
        allEdgesAre("none, settled", x, 0, 1);
    }

    /** The same sentence: edges that add up to nothing. */
    void allEdgesThatAddUpToNothing() {
        TavernDice x = new TavernDice();
        x.lay(0, 0, 7, 6, 4, 1);
        allEdgesAre("one of 1", x, 1, 1);
        x.lay(1, 0, 7, 6, 6, 1);
        allEdgesAre("1 and -1", x, 0, 1);
        x.takeBack(0);
        allEdgesAre("one of -1", x, -1, 1);
    }

    /** "added as fractions", "no divisor in common but 1", "the bottom greater than 0". */
    void allEdgesInTheirLowestTerms() {
        TavernDice x = new TavernDice();
        x.lay(0, 4, 1, 10, 2, 1);
        x.lay(0, 0, 7, 10, 7, 1);
        allEdgesAre("5/6 and -10/3", x, -5, 2);
        x.lay(1, 0, 12, 1, 1, 1);
        allEdgesAre("5/6, -10/3 and 17/18", x, -14, 9);
        x.lay(1, 0, 12, 1, 6, 1);
        allEdgesAre("29/36 more", x, -3, 4);
        x.takeBack(1);
        allEdgesAre("-10/3 less", x, 31, 12);
    }

    /** "all edges of open wagers": twelve, each at the most. */
    void allEdgesOfTwelveAtTheMost() {
        TavernDice x = new TavernDice();
        x.setDice(12, 12, 12);
        for (int patron = 0; patron < 6; patron++) {
            x.lay(patron, 1, 0, 100, 20, 1);
        }
        allEdgesAre("six at the least", x, -12000, 1);
        x.settle(0);
        for (int i = 0; i < 12; i++) {
            x.lay(i % 6, 1, 0, 100, 20, 1);
        }
        allEdgesAre("twelve at the least", x, -24000, 1);
        x.settle(1727);
        for (int i = 0; i < 12; i++) {
            x.lay(i % 6, 6, 0, 100, 20, 1);
        }
        allEdgesAre("twelve at the most", x, 1200, 1);
        x.settle(1727);
        for (int i = 0; i < 12; i++) {
            x.lay(i % 6, 5, 36, 100, 20, 1);
        }
        allEdgesAre("twelve that come but with the last", x, -287825, 12);
    }

    // ---- Promise 23: dearestWager

    /** "-1 without any": at first, behind takeBack, behind settle. */
    void noDearestWithoutAny() {
        TavernDice x = new TavernDice();
        check.same("dearestWager() at first", x.dearestWager(), -1);
        x.lay(0, 0, 7, 10, 1, 1);
        x.takeBack(0);
        check.same("dearestWager() behind takeBack", x.dearestWager(), -1);
        x.lay(0, 0, 7, 10, 1, 1);
        x.settle(0);
        check.same("dearestWager() behind settle", x.dearestWager(), -1);
    }

    /** "-1 without any": with one it is that one, be its edge more than 0, 0, or the least. */
    void theOnlyOneIsTheDearest() {
        int[][] rows = {{0, 1, 1, 1}, {2, 0, 1, 1}, {1, 0, 1, 20}, {1, 0, 100, 20}};
        for (int[] row : rows) {
            TavernDice x = new TavernDice();
            x.lay(0, row[0], row[1], row[2], row[3], 1);
            check.same("dearestWager() of one", x.dearestWager(), 0);
        }
    }

    /** "of several the smallest number": of twelve, of two with other stakes, of two that are not the first. */
    void ofSeveralDearestTheSmallestNumber() {
        TavernDice x = new TavernDice();
        for (int i = 0; i < 12; i++) {
            x.lay(i % 6, 0, 7, i + 1, 4, 1);
        }
        check.same("dearestWager() of twelve with 1 / 6", x.dearestWager(), 0);
        x.takeBack(0);
        check.same("dearestWager() of eleven with 1 / 6", x.dearestWager(), 0);
        x.settle(0);
        x.lay(1, 0, 7, 1, 5, 1);
        x.lay(2, 0, 7, 50, 4, 1);
        x.lay(3, 0, 7, 1, 4, 1);
        check.same("dearestWager() of 0, 1 / 6 and 1 / 6", x.dearestWager(), 1);
        x.takeBack(1);
        x.lay(2, 0, 7, 50, 4, 1);
        check.same("dearestWager() in another order", x.dearestWager(), 1);
    }

    /** The same sentence, with edges of 0 and below 0 alone. */
    void ofSeveralDearestThatAreNot() {
        TavernDice x = new TavernDice();
        x.lay(0, 1, 0, 1, 2, 1);
        x.lay(1, 1, 0, 2, 1, 1);
        x.lay(2, 1, 0, 1, 1, 1);
        check.same("dearestWager() of -2, -1 and -1", x.dearestWager(), 1);
        x.lay(3, 2, 0, 9, 1, 1);
        x.lay(4, 2, 0, 1, 1, 1);
        check.same("dearestWager() with 0 and 0", x.dearestWager(), 3);
    }

    /** "the greatest edge": it may be the last of twelve. */
    void theLastOfTwelveMayBeTheDearest() {
        TavernDice x = new TavernDice();
        for (int i = 0; i < 11; i++) {
            x.lay(i % 6, 0, 7, 9, 4, 1);
        }
        x.lay(5, 0, 7, 1, 3, 1);
        check.same("dearestWager()", x.dearestWager(), 11);
        x.takeBack(0);
        check.same("dearestWager() then", x.dearestWager(), 10);
    }

    /** "for each 1 of its stake": not the edge by itself, neither above 0 nor below. */
    void dearestForEach1OfItsStake() {
        TavernDice x = new TavernDice();
        x.lay(0, 0, 7, 100, 4, 1);
        x.lay(1, 0, 7, 2, 1, 1);
        check.same("dearestWager() of 50 / 3 by 100 and 4 / 3 by 2", x.dearestWager(), 1);
        TavernDice below = new TavernDice();
        below.lay(0, 1, 0, 1, 20, 1);
        below.lay(1, 1, 0, 100, 1, 1);
        check.same("dearestWager() of -20 by 1 and -100 by 100", below.dearestWager(), 1);
    }

    /** The same sentence: fractions that lie side by side are told apart, in both orders. */
    void dearestIsToldApartExactly() {
        TavernDice x = new TavernDice();
        x.setDice(12, 12, 12);
        x.lay(0, 1, 0, 99, 1, 5);
        x.lay(1, 1, 0, 100, 1, 5);
        check.same("dearestWager() of -19 / 99 and -20 / 100", x.dearestWager(), 0);
        TavernDice y = new TavernDice();
        y.setDice(12, 12, 12);
        y.lay(0, 1, 0, 100, 1, 5);
        y.lay(1, 1, 0, 99, 1, 5);
        check.same("dearestWager() of -20 / 100 and -19 / 99", y.dearestWager(), 1);
        TavernDice z = new TavernDice();
        z.setDice(12, 12, 12);
        z.lay(0, 0, 36, 99, 1, 2);
        z.lay(1, 0, 36, 97, 1, 2);
        check.same("dearestWager() of brings 49 / 99 and 48 / 97, which is less by 1 / 9603", z.dearestWager(), 1);
        z.takeBack(0);
        z.takeBack(0);
        z.lay(0, 0, 36, 100, 1, 3);
        z.lay(1, 0, 36, 97, 1, 3);
        check.same("dearestWager() of brings 33 / 100 and 32 / 97, which is less by 1 / 9700", z.dearestWager(), 1);
    }
}
