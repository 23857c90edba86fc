import java.math.BigInteger;

/** The boundary cases of promises 24 to 32: each method tests one sentence. */
final class BoundaryWhatWouldBeTest extends Sentences {
    private static final int[] WRONG_OUTCOMES = {-36, -1, 36, 37, 1727};
    private static final int[] WRONG_PATRONS = {-6, -1, 6, 7, 12};
    private static final long[] WAYS_OF_7 = {6, 21, 18, 6, 0, 30, 15, 18, 30, 36};

    public static void main(String[] args) {
        new BoundaryWhatWouldBeTest().runAll();
    }

    private static TavernDice with(int first, int second, int third) {
        TavernDice x = new TavernDice();
        x.setDice(first, second, third);
        return x;
    }

    /** The first outcome brings patron 0 something, the last one patron 5. */
    private static TavernDice withTwo() {
        TavernDice x = new TavernDice();
        x.lay(0, 0, 2, 10, 2, 1);
        x.lay(5, 0, 12, 20, 3, 1);
        return x;
    }

    // ---- Promise 24: gainAt

    /** "IndexOutOfBoundsException if there is no such outcome", of gainAt. */
    void gainAtRefusesNoSuchOutcome() {
        TavernDice x = withTwo();
        check.same("gainAt(0)", x.gainAt(0), -20 + 20);
        check.same("gainAt(35)", x.gainAt(35), 10 - 60);
        for (int outcome : WRONG_OUTCOMES) {
            check.fails("gainAt(" + outcome + ")", x, Check.INDEX, () -> x.gainAt(outcome));
        }
        for (int far : FAR) {
            check.fails("gainAt(" + far + ")", x, Check.INDEX, () -> x.gainAt(far));
        }
    }

    /** The same sentence goes by the dice that lie out, without wagers too. */
    void gainAtGoesByTheDiceThatLieOut() {
        TavernDice x = with(12, 12, 12);
        check.same("12, 12, 12: gainAt(1727)", x.gainAt(1727), 0);
        check.fails("12, 12, 12: gainAt(1728)", x, Check.INDEX, () -> x.gainAt(1728));
        x.setDice(2, 0, 0);
        check.same("2: gainAt(1)", x.gainAt(1), 0);
        check.fails("2: gainAt(2)", x, Check.INDEX, () -> x.gainAt(2));
    }

    /** "what the house would gain by all open wagers": twelve, and nothing is changed. */
    void gainAtOfTwelve() {
        TavernDice x = new TavernDice();
        for (int i = 0; i < 12; i++) {
            x.lay(i % 6, 0, i == 0 || i == 11 ? 2 : 12, i + 1, 2, 1);
        }
        check.same("gainAt(0), the first and the last come", x.gainAt(0), -2 - 24 + 65);
        check.same("gainAt(35), all others come", x.gainAt(35), 1 + 12 - 130);
        check.same("gainAt(1), none comes", x.gainAt(1), 78);
        check.same("open()", x.open(), 12);
        check.same("rounds()", x.rounds(), 0);
        check.same("settle(35)", x.settle(35), -117);
        check.same("gainAt(35) behind settle", x.gainAt(35), 0);
    }

    // ---- Promises 25 and 26: worstGain and worstOutcome

    /** "the least that the house could gain": without any wager nothing, with outcome 0. */
    void worstWithoutWagers() {
        TavernDice x = new TavernDice();
        check.same("worstGain() at first", x.worstGain(), 0);
        check.same("worstOutcome() at first", x.worstOutcome(), 0);
        x.lay(0, 0, 12, 10, 1, 1);
        x.takeBack(0);
        check.same("worstGain() behind takeBack", x.worstGain(), 0);
        check.same("worstOutcome() behind takeBack", x.worstOutcome(), 0);
        x.lay(0, 0, 12, 10, 1, 1);
        x.settle(35);
        check.same("worstGain() behind settle", x.worstGain(), 0);
        check.same("worstOutcome() behind settle", x.worstOutcome(), 0);
    }

    /** "of several the smallest number": of all, of some, and of two that are not the first. */
    void ofSeveralWorstOutcomesTheSmallest() {
        TavernDice x = new TavernDice();
        x.lay(0, 1, 0, 1, 20, 1);
        check.same("worstOutcome() of what always comes", x.worstOutcome(), 0);
        x.takeBack(0);
        x.lay(0, 0, 1, 1, 20, 1);
        check.same("worstOutcome() of what never comes", x.worstOutcome(), 0);
        x.takeBack(0);
        x.lay(0, 0, 7, 10, 1, 1);
        check.same("worstOutcome() of the sum 7", x.worstOutcome(), 5);
        x.takeBack(0);
        x.lay(0, 0, 11, 10, 1, 1);
        check.same("worstOutcome() of the sum 11", x.worstOutcome(), 29);
        x.takeBack(0);
        x.lay(0, 5, 2, 10, 1, 1);
        check.same("worstOutcome() of all but the first", x.worstOutcome(), 1);
    }

    /** "the least that the house could gain": with the first outcome alone, and with the last alone. */
    void worstWithTheFirstOrTheLastAlone() {
        TavernDice x = new TavernDice();
        x.lay(0, 0, 2, 10, 20, 1);
        check.same("worstGain() with the first", x.worstGain(), -200);
        check.same("worstOutcome() that is the first", x.worstOutcome(), 0);
        x.lay(1, 0, 12, 11, 20, 1);
        check.same("worstGain() with the last", x.worstGain(), -210);
        check.same("worstOutcome() that is the last", x.worstOutcome(), 35);
        TavernDice most = with(12, 12, 12);
        most.lay(0, 0, 36, 100, 20, 1);
        check.same("worstGain() with the last of the most", most.worstGain(), -2000);
        check.same("worstOutcome() that is the last of the most", most.worstOutcome(), 1727);
        TavernDice fewest = with(2, 0, 0);
        fewest.lay(0, 4, 2, 1, 1, 1);
        check.same("worstGain() with the last of the fewest", fewest.worstGain(), -1);
        check.same("worstOutcome() that is the last of the fewest", fewest.worstOutcome(), 1);
    }

    /** The same sentence: it may be more than nothing, or nothing. */
    void worstGainNotBelowNothing() {
        TavernDice x = new TavernDice();
        x.lay(0, 0, 1, 100, 20, 1);
        check.same("worstGain() of what never comes", x.worstGain(), 100);
        x.lay(1, 0, 12, 1, 20, 1);
        check.same("worstGain() with one that may come", x.worstGain(), 80);
        check.same("worstOutcome()", x.worstOutcome(), 35);
        x.takeBack(1);
        x.lay(1, 0, 12, 5, 20, 1);
        check.same("worstGain() of nothing", x.worstGain(), 0);
    }

    /** The same sentence: an outcome of former dice is none with which it could gain less. */
    void worstGoesByTheDiceThatLieOut() {
        TavernDice x = with(12, 12, 12);
        x.setDice(2, 0, 0);
        x.lay(0, 1, 3, 10, 20, 1);
        check.same("worstGain()", x.worstGain(), 10);
        check.same("worstOutcome()", x.worstOutcome(), 0);
    }

    // ---- Promise 27: purseAt

    /** "IndexOutOfBoundsException if patron is not 0 to 5", of purseAt. */
    void purseAtTakesPatrons0To5() {
        TavernDice x = withTwo();
        check.same("purseAt(0, 0)", x.purseAt(0, 0), 120);
        check.same("purseAt(5, 35)", x.purseAt(5, 35), 160);
        for (int patron : WRONG_PATRONS) {
            check.fails("purseAt(" + patron + ", 0)", x, Check.INDEX, () -> x.purseAt(patron, 0));
        }
        for (int far : FAR) {
            check.fails("purseAt(" + far + ", 0)", x, Check.INDEX, () -> x.purseAt(far, 0));
        }
    }

    /** "or there is no such outcome", of purseAt. */
    void purseAtRefusesNoSuchOutcome() {
        TavernDice x = withTwo();
        check.same("purseAt(0, 35)", x.purseAt(0, 35), 90);
        check.same("purseAt(5, 0)", x.purseAt(5, 0), 80);
        for (int outcome : WRONG_OUTCOMES) {
            check.fails("purseAt(0, " + outcome + ")", x, Check.INDEX, () -> x.purseAt(0, outcome));
            check.fails("purseAt(1, " + outcome + ")", x, Check.INDEX, () -> x.purseAt(1, outcome));
        }
        for (int far : FAR) {
            check.fails("purseAt(5, " + far + ")", x, Check.INDEX, () -> x.purseAt(5, far));
        }
        check.fails("purseAt(6, 36)", x, Check.INDEX, () -> x.purseAt(6, 36));
        TavernDice most = with(12, 12, 12);
        check.same("purseAt(0, 1727) of the most", most.purseAt(0, 1727), 100);
        check.fails("purseAt(0, 1728) of the most", most, Check.INDEX, () -> most.purseAt(0, 1728));
        TavernDice fewest = with(2, 0, 0);
        check.same("purseAt(0, 1) of the fewest", fewest.purseAt(0, 1), 100);
        check.fails("purseAt(0, 2) of the fewest", fewest, Check.INDEX, () -> fewest.purseAt(0, 2));
    }

    /** "Returns the purse behind it": without wagers, with nothing left, and with nothing brought. */
    void purseAtFromNothing() {
        TavernDice x = new TavernDice();
        x.lay(0, 0, 12, 100, 1, 1);
        x.lay(1, 0, 12, 9, 1, 10);
        check.same("purseAt(0, 34) of nothing", x.purseAt(0, 34), 0);
        check.same("purseAt(0, 35)", x.purseAt(0, 35), 200);
        check.same("purseAt(1, 35) of nothing brought", x.purseAt(1, 35), 100);
        check.same("purseAt(1, 34)", x.purseAt(1, 34), 91);
        check.same("purseAt(2, 35) without wagers", x.purseAt(2, 35), 100);
        check.same("purseOf(0)", x.purseOf(0), 0);
        x.settle(35);
        check.same("purseOf(0) behind it", x.purseOf(0), 200);
        check.same("purseAt(0, 34) behind settle", x.purseAt(0, 34), 200);
    }

    // ---- Promise 28: leastPurse

    /** "IndexOutOfBoundsException if patron is not 0 to 5", of leastPurse. */
    void leastPurseTakesPatrons0To5() {
        TavernDice x = withTwo();
        check.same("leastPurse(0)", x.leastPurse(0), 90);
        check.same("leastPurse(5)", x.leastPurse(5), 80);
        for (int patron : WRONG_PATRONS) {
            check.fails("leastPurse(" + patron + ")", x, Check.INDEX, () -> x.leastPurse(patron));
        }
        for (int far : FAR) {
            check.fails("leastPurse(" + far + ")", x, Check.INDEX, () -> x.leastPurse(far));
        }
    }

    /** "Returns the least that the purse could have": without wagers the purse, with what always comes more than it. */
    void leastPurseWithoutWagersAndWithWhatAlwaysComes() {
        TavernDice x = new TavernDice();
        check.same("leastPurse(0) at first", x.leastPurse(0), 100);
        x.lay(0, 1, 2, 100, 20, 1);
        check.same("leastPurse(0) of what always comes", x.leastPurse(0), 2100);
        check.same("purseOf(0)", x.purseOf(0), 0);
        check.same("leastPurse(1) with another's wager", x.leastPurse(1), 100);
        x.lay(2, 0, 7, 100, 20, 1);
        check.same("leastPurse(2) of nothing", x.leastPurse(2), 0);
    }

    /** The same sentence: the least is with the first outcome alone, and with the last alone. */
    void leastPurseWithTheFirstOrTheLastAlone() {
        TavernDice x = new TavernDice();
        x.lay(0, 5, 2, 30, 1, 1);
        check.same("leastPurse(0), with the first", x.leastPurse(0), 70);
        x.lay(1, 5, 12, 40, 1, 1);
        check.same("leastPurse(1), with the last", x.leastPurse(1), 60);
        TavernDice most = with(12, 12, 12);
        most.lay(2, 5, 36, 50, 1, 1);
        check.same("leastPurse(2), with the last of the most", most.leastPurse(2), 50);
        TavernDice fewest = with(2, 0, 0);
        fewest.lay(3, 0, 1, 60, 1, 1);
        check.same("leastPurse(3), with the last of the fewest", fewest.leastPurse(3), 40);
    }

    // ---- Promise 29: isHedged

    /** "IndexOutOfBoundsException if patron is not 0 to 5", of isHedged. */
    void isHedgedTakesPatrons0To5() {
        TavernDice x = withTwo();
        check.same("isHedged(0)", x.isHedged(0), false);
        check.same("isHedged(5)", x.isHedged(5), false);
        check.same("isHedged(1)", x.isHedged(1), true);
        check.same("isHedged(4)", x.isHedged(4), true);
        for (int patron : WRONG_PATRONS) {
            check.fails("isHedged(" + patron + ")", x, Check.INDEX, () -> x.isHedged(patron));
        }
        for (int far : FAR) {
            check.fails("isHedged(" + far + ")", x, Check.INDEX, () -> x.isHedged(far));
        }
    }

    /** "the same behind each outcome": without wagers, with what always comes, and with what never comes. */
    void isHedgedWithoutChance() {
        TavernDice x = new TavernDice();
        check.same("isHedged(0) at first", x.isHedged(0), true);
        x.lay(0, 1, 2, 50, 20, 1);
        check.same("isHedged(0) with what always comes", x.isHedged(0), true);
        x.lay(1, 1, 13, 50, 20, 1);
        check.same("isHedged(1) with what never comes", x.isHedged(1), true);
        x.lay(0, 0, 7, 1, 1, 1);
        check.same("isHedged(0) with a chance more", x.isHedged(0), false);
        x.takeBack(2);
        check.same("isHedged(0) behind takeBack", x.isHedged(0), true);
        x.lay(0, 0, 7, 1, 1, 1);
        x.settle(0);
        check.same("isHedged(0) behind settle", x.isHedged(0), true);
    }

    /** The same sentence: one outcome that differs is enough, the first, one amid, and the last. */
    void isHedgedNotIfOneOutcomeDiffers() {
        int[][] events = {{0, 2}, {5, 2}, {0, 12}, {5, 12}};
        for (int[] event : events) {
            TavernDice x = new TavernDice();
            x.lay(0, event[0], event[1], 1, 1, 1);
            check.same("isHedged(0) with " + event[0] + ", " + event[1], x.isHedged(0), false);
        }
        TavernDice most = with(12, 12, 12);
        most.lay(0, 0, 36, 1, 1, 10);
        check.same("isHedged(0) but for the last of the most", most.isHedged(0), false);
        TavernDice three = with(3, 0, 0);
        three.lay(0, 4, 2, 1, 1, 10);
        check.same("isHedged(0) but for one amid", three.isHedged(0), false);
    }

    /** The same sentence: two that bring as much, and two that bring 1 less or more. */
    void isHedgedToTheLast1() {
        TavernDice x = new TavernDice();
        x.lay(0, 0, 7, 20, 4, 1);
        x.lay(0, 5, 7, 50, 1, 1);
        check.same("isHedged(0) of 80 - 50 and 50 - 20", x.isHedged(0), true);
        x.takeBack(1);
        x.lay(0, 5, 7, 49, 1, 1);
        check.same("isHedged(0) of 80 - 49 and 49 - 20", x.isHedged(0), false);
        x.takeBack(1);
        x.lay(0, 5, 7, 51, 1, 1);
        check.same("isHedged(0) of 80 - 51 and 51 - 20", x.isHedged(0), false);
        x.takeBack(1);
        x.lay(1, 5, 7, 50, 1, 1);
        check.same("isHedged(0) with another's", x.isHedged(0), false);
    }

    // ---- Promise 30: hedgeFor

    /** "IndexOutOfBoundsException if there is no such wager", of hedgeFor. */
    void hedgeForRefusesNoSuchWager() {
        TavernDice none = new TavernDice();
        check.fails("hedgeFor(0, 1, 1) of none", none, Check.INDEX, () -> none.hedgeFor(0, 1, 1));
        check.fails("hedgeFor(-1, 1, 1) of none", none, Check.INDEX, () -> none.hedgeFor(-1, 1, 1));
        TavernDice x = new TavernDice();
        for (int i = 0; i < 12; i++) {
            x.lay(i % 6, 0, 7, i + 1, 1, 1);
        }
        check.same("hedgeFor(0, 1, 1) of 12", x.hedgeFor(0, 1, 1), 1);
        check.same("hedgeFor(11, 1, 1) of 12", x.hedgeFor(11, 1, 1), 12);
        int[] wrong = {-1, 12, 13};
        for (int wager : wrong) {
            check.fails("hedgeFor(" + wager + ", 1, 1) of 12", x, Check.INDEX, () -> x.hedgeFor(wager, 1, 1));
        }
        for (int far : FAR) {
            check.fails("hedgeFor(" + far + ", 1, 1) of 12", x, Check.INDEX, () -> x.hedgeFor(far, 1, 1));
        }
        x.takeBack(0);
        check.fails("hedgeFor(11, 1, 1) of 11", x, Check.INDEX, () -> x.hedgeFor(11, 1, 1));
    }

    /** "IllegalArgumentException if win is not 1 to 20", of hedgeFor. */
    void hedgeForTakesWins1To20() {
        TavernDice x = new TavernDice();
        x.lay(0, 0, 7, 21, 1, 1);
        check.same("hedgeFor(0, 1, 1)", x.hedgeFor(0, 1, 1), 21);
        check.same("hedgeFor(0, 20, 1)", x.hedgeFor(0, 20, 1), 2);
        int[] wrong = {-20, -1, 0, 21, 22};
        for (int win : wrong) {
            check.fails("hedgeFor(0, " + win + ", 1)", x, Check.ARGUMENT, () -> x.hedgeFor(0, win, 1));
        }
        for (int far : FAR) {
            check.fails("hedgeFor(0, " + far + ", 1)", x, Check.ARGUMENT, () -> x.hedgeFor(0, far, 1));
        }
    }

    /** "or base is not 1 to 10", of hedgeFor. */
    void hedgeForTakesBases1To10() {
        TavernDice x = new TavernDice();
        x.lay(0, 0, 7, 11, 1, 1);
        check.same("hedgeFor(0, 1, 1)", x.hedgeFor(0, 1, 1), 11);
        check.same("hedgeFor(0, 1, 10)", x.hedgeFor(0, 1, 10), 20);
        int[] wrong = {-10, -1, 0, 11, 12};
        for (int base : wrong) {
            check.fails("hedgeFor(0, 1, " + base + ")", x, Check.ARGUMENT, () -> x.hedgeFor(0, 1, base));
        }
        for (int far : FAR) {
            check.fails("hedgeFor(0, 1, " + far + ")", x, Check.ARGUMENT, () -> x.hedgeFor(0, 1, far));
        }
    }

    /** "the least stake, 1 to 999": the least there is. */
    void hedgeForOfThe1() {
        TavernDice x = new TavernDice();
        x.lay(0, 0, 7, 1, 1, 1);
        check.same("hedgeFor(0, 1, 1) of 1 and 1", x.hedgeFor(0, 1, 1), 1);
        x.lay(0, 0, 7, 1, 20, 1);
        check.same("hedgeFor(1, 20, 1) of 20 and 1", x.hedgeFor(1, 20, 1), 1);
        x.lay(0, 0, 7, 1, 1, 10);
        check.same("hedgeFor(2, 1, 2) of 0 and 1", x.hedgeFor(2, 1, 2), 1);
    }

    /** The same sentence: 999 is taken, 1000 is not. */
    void hedgeForOf999AndOf1000() {
        TavernDice x = new TavernDice();
        x.lay(0, 0, 7, 61, 17, 1);
        check.same("hedgeFor(0, 1, 10), 999 and 99 are 1098", x.hedgeFor(0, 1, 10), 999);
        x.lay(1, 0, 7, 100, 10, 1);
        check.same("hedgeFor(1, 1, 10), 1000 and 100 were 1100", x.hedgeFor(1, 1, 10), -1);
        x.lay(2, 0, 7, 37, 13, 1);
        check.same("hedgeFor(2, 1, 1), half of 518", x.hedgeFor(2, 1, 1), 259);
        x.lay(3, 0, 7, 100, 19, 1);
        check.same("hedgeFor(3, 1, 1), half of 2000 is too much", x.hedgeFor(3, 1, 1), -1);
        x.lay(4, 0, 7, 90, 20, 1);
        check.same("hedgeFor(4, 1, 1), half of 1890", x.hedgeFor(4, 1, 1), 945);
        x.lay(5, 0, 7, 99, 19, 1);
        check.same("hedgeFor(5, 1, 1), half of 1980", x.hedgeFor(5, 1, 1), 990);
    }

    /** "-1 if none does": one stake is 1 too little, the next one too much. */
    void hedgeForBetweenTwoStakes() {
        TavernDice x = new TavernDice();
        x.lay(0, 0, 7, 9, 1, 2);
        check.same("hedgeFor(0, 1, 1) of 13", x.hedgeFor(0, 1, 1), -1);
        check.same("hedgeFor(0, 1, 2), 9 and 4 are 13", x.hedgeFor(0, 1, 2), 9);
        check.same("hedgeFor(0, 20, 1), 1 and 20 are 21", x.hedgeFor(0, 20, 1), -1);
        x.lay(1, 0, 7, 1, 1, 10);
        check.same("hedgeFor(1, 1, 1) of 1", x.hedgeFor(1, 1, 1), -1);
    }

    /** "another wager ... and this one": the limit of a stake, the purse, the twelve and the chance don't count. */
    void hedgeForWhateverCouldBeLaid() {
        TavernDice x = new TavernDice();
        x.lay(0, 0, 7, 100, 4, 1);
        check.same("hedgeFor(0, 1, 1), more than a stake may be, the purse empty", x.hedgeFor(0, 1, 1), 250);
        for (int i = 1; i < 12; i++) {
            x.lay(1, i % 2, i % 2 == 0 ? 1 : 2, 4, 1, 1);
        }
        check.same("hedgeFor(1, 1, 1), of what always comes, twelve open", x.hedgeFor(1, 1, 1), 4);
        check.same("hedgeFor(2, 1, 1), of what never comes", x.hedgeFor(2, 1, 1), 4);
    }

    /** "(nothing is changed)": neither as there is such a stake, nor as there is none. */
    void hedgeForChangesNothing() {
        TavernDice x = new TavernDice();
        x.lay(0, 0, 7, 30, 4, 1);
        long before = x.digest();
        check.same("hedgeFor(0, 1, 1)", x.hedgeFor(0, 1, 1), 75);
        check.same("hedgeFor(0, 20, 1)", x.hedgeFor(0, 20, 1), -1);
        check.same("digest()", x.digest(), before);
        check.same("open()", x.open(), 1);
        check.same("purseOf(0)", x.purseOf(0), 70);
    }

    // ---- Promise 31: fairWin

    /** "IllegalArgumentException if kind is not 0 to 9", of fairWin. */
    void fairWinTakesKinds0To9() {
        TavernDice x = new TavernDice();
        check.same("fairWin(0, 7, 1)", x.fairWin(0, 7, 1), 5);
        check.same("fairWin(9, 6, 10)", x.fairWin(9, 6, 10), 4);
        int[] wrong = {-5, -1, 10, 11, 14};
        for (int kind : wrong) {
            check.fails("fairWin(" + kind + ", 7, 1)", x, Check.ARGUMENT, () -> x.fairWin(kind, 7, 1));
        }
        for (int far : FAR) {
            check.fails("fairWin(" + far + ", 7, 1)", x, Check.ARGUMENT, () -> x.fairWin(far, 7, 1));
        }
    }

    /** "number is not 0 to 36", of fairWin. */
    void fairWinTakesNumbers0To36() {
        TavernDice x = new TavernDice();
        check.same("fairWin(2, 0, 1)", x.fairWin(2, 0, 1), 1);
        check.same("fairWin(2, 36, 1)", x.fairWin(2, 36, 1), 1);
        for (int k = 0; k <= 9; k++) {
            int kind = k;
            check.fails("fairWin(" + kind + ", -1, 1)", x, Check.ARGUMENT, () -> x.fairWin(kind, -1, 1));
            check.fails("fairWin(" + kind + ", 37, 1)", x, Check.ARGUMENT, () -> x.fairWin(kind, 37, 1));
        }
        for (int far : FAR) {
            check.fails("fairWin(4, " + far + ", 1)", x, Check.ARGUMENT, () -> x.fairWin(4, far, 1));
        }
    }

    /** "or base is not 1 to 10", of fairWin. */
    void fairWinTakesBases1To10() {
        TavernDice x = new TavernDice();
        check.same("fairWin(2, 0, 1)", x.fairWin(2, 0, 1), 1);
        check.same("fairWin(2, 0, 10)", x.fairWin(2, 0, 10), 10);
        int[] wrong = {-10, -1, 0, 11, 12};
        for (int base : wrong) {
            check.fails("fairWin(2, 0, " + base + ")", x, Check.ARGUMENT, () -> x.fairWin(2, 0, base));
        }
        for (int far : FAR) {
            check.fails("fairWin(2, 0, " + far + ")", x, Check.ARGUMENT, () -> x.fairWin(2, 0, far));
        }
    }

    /** "an edge of 0 or more": 0 itself is fair, and 1 more would not be. */
    void fairWinOfAnEdgeOf0() {
        TavernDice x = new TavernDice();
        check.same("fairWin(0, 7, 1), 30 and 6 of 36", x.fairWin(0, 7, 1), 5);
        check.same("fairWin(3, 0, 2), 30 and 6 of 36", x.fairWin(3, 0, 2), 10);
        check.same("fairWin(2, 0, 1), 18 and 18 of 36", x.fairWin(2, 0, 1), 1);
        check.same("fairWin(1, 10, 4), 30 and 6 of 36", x.fairWin(1, 10, 4), 20);
    }

    /** "the greatest win, 1 to 20": 20, as its edge is 0 and as it is more, and 19, as that of 20 were below 0. */
    void fairWinAround20() {
        TavernDice x = with(3, 7, 0);
        check.same("fairWin(0, 2, 1), 20 and 1 of 21", x.fairWin(0, 2, 1), 20);
        x.setDice(4, 5, 0);
        check.same("fairWin(0, 2, 1), 19 and 1 of 20", x.fairWin(0, 2, 1), 19);
        x.setDice(2, 11, 0);
        check.same("fairWin(0, 2, 1), 21 and 1 of 22", x.fairWin(0, 2, 1), 20);
        x.setDice(12, 12, 12);
        check.same("fairWin(0, 36, 1), 1727 and 1 of 1728", x.fairWin(0, 36, 1), 20);
        check.same("fairWin(0, 2, 1), which never comes", x.fairWin(0, 2, 1), 20);
        check.same("fairWin(0, 2, 10), which never comes", x.fairWin(0, 2, 10), 20);
    }

    /** "0 if 1 is too much": just too much, and just not. */
    void fairWinAround1() {
        TavernDice x = new TavernDice();
        check.same("fairWin(5, 7, 4), 30 times 25 of 600", x.fairWin(5, 7, 4), 0);
        check.same("fairWin(5, 7, 5), 30 times 20 of 600", x.fairWin(5, 7, 5), 1);
        check.same("fairWin(1, 0, 1), which always comes", x.fairWin(1, 0, 1), 0);
        check.same("fairWin(1, 0, 10), which always comes", x.fairWin(1, 0, 10), 0);
        check.same("fairWin(5, 12, 10), 35 times 10 of 100", x.fairWin(5, 12, 10), 0);
    }

    /** "a wager of 100": of 101 a greater win would be fair, and of 99 too. */
    void fairWinOfAWagerOf100() {
        TavernDice x = with(12, 12, 12);
        check.same("fairWin(9, 12, 10), 1331 times 20 of 39700, where 30 were too much", x.fairWin(9, 12, 10), 2);
    }

    /** "with which a wager of 100 on it ... would have an edge": what it brings is cut, to the house's good. */
    void fairWinOfWhatIsCut() {
        TavernDice x = with(7, 7, 0);
        check.same("fairWin(1, 7, 9), 34 times 44 of 1500, where 44 4/9 were too much", x.fairWin(1, 7, 9), 4);
        x.setDice(4, 7, 0);
        check.same("fairWin(1, 4, 8), 25 times 12 of 300, where 12 1/2 were too much", x.fairWin(1, 4, 8), 1);
        x.setDice(8, 6, 0);
        check.same("fairWin(9, 5, 8), 35 times 37 of 1300, where 37 1/2 were too much", x.fairWin(9, 5, 8), 3);
        x.setDice(3, 0, 0);
        check.same("fairWin(1, 2, 7), 2 times 42 of 100, where 57 are too much", x.fairWin(1, 2, 7), 3);
    }

    /** The same sentence: the wager is of 100, whatever the purses have and whether twelve are open. */
    void fairWinWhateverCouldBeLaid() {
        TavernDice x = new TavernDice();
        for (int patron = 0; patron < 6; patron++) {
            x.lay(patron, 0, 7, 99, 1, 1);
            x.lay(patron, 0, 7, 1, 1, 1);
        }
        long before = x.digest();
        check.same("fairWin(0, 7, 1)", x.fairWin(0, 7, 1), 5);
        check.same("digest()", x.digest(), before);
    }

    // ---- Promise 32: digest

    private static long wrapped(long[] numbers) {
        BigInteger d = BigInteger.valueOf(2141);
        for (long x : numbers) {
            d = d.multiply(BigInteger.valueOf(31)).add(BigInteger.valueOf(x));
        }
        return d.longValue();
    }

    private static long[] joined(long[]... parts) {
        int length = 0;
        for (long[] part : parts) {
            length += part.length;
        }
        long[] all = new long[length];
        int at = 0;
        for (long[] part : parts) {
            System.arraycopy(part, 0, all, at, part.length);
            at += part.length;
        }
        return all;
    }

    /** "which wraps around as a 64-bit integer", of a ledger without wagers: the wagers' numbers are left out. */
    void digestWithoutWagers() {
        long[] house = {2, 36, 0, 500, 0, 0, 0, 1, -1, 0, 0};
        long[] patrons = {100, 100, 1, 100, 100, 1, 100, 100, 1, 100, 100, 1, 100, 100, 1, 100, 100, 1};
        check.same("digest()", new TavernDice().digest(), wrapped(joined(house, patrons, WAYS_OF_7)));
    }

    /** "for each open wager", "(whether something is so counts 1 or 0)": twelve, and patrons who are hedged or not. */
    void digestOfTwelve() {
        TavernDice x = new TavernDice();
        for (int i = 0; i < 12; i++) {
            x.lay(i % 6, i < 6 ? 2 : 7, 0, i % 6 == 5 ? 7 + i : 10, 1, 1);
        }
        long[] house = {2, 36, 12, 500, 0, 130, 0, 1, 0, -6, 0};
        long[] wagers = {0, 10, 10, 0, 1, 1, 10, 10, 0, 1, 2, 10, 10, 0, 1,
            3, 10, 10, 0, 1, 4, 10, 10, 0, 1, 5, 12, 12, 0, 1,
            0, 10, 10, 0, 1, 1, 10, 10, 0, 1, 2, 10, 10, 0, 1,
            3, 10, 10, 0, 1, 4, 10, 10, 0, 1, 5, 18, 18, 0, 1};
        long[] patrons = {80, 100, 1, 80, 100, 1, 80, 100, 1, 80, 100, 1, 80, 100, 1, 70, 94, 0};
        check.same("digest()", x.digest(), wrapped(joined(house, wagers, patrons, WAYS_OF_7)));
    }

    /** The same sentences with numbers below 0: the bank, edges and the worst gain. */
    void digestOfNumbersBelow0() {
        TavernDice x = new TavernDice();
        x.lay(0, 1, 0, 100, 20, 1);
        x.settle(0);
        x.lay(0, 0, 7, 10, 7, 1);
        long[] house = {2, 36, 1, -1500, 1, 10, -10, 3, 0, -70, 5};
        long[] wager = {0, 10, 70, -10, 3};
        long[] patrons = {2090, 2090, 0, 100, 100, 1, 100, 100, 1, 100, 100, 1, 100, 100, 1, 100, 100, 1};
        check.same("digest()", x.digest(), wrapped(joined(house, wager, patrons, WAYS_OF_7)));
    }

    /** "ways() of the kinds 0 to 9 with the number 7": with dice that never show it, and with the most faces. */
    void digestWithOtherDice() {
        long[] patrons = {100, 100, 1, 100, 100, 1, 100, 100, 1, 100, 100, 1, 100, 100, 1, 100, 100, 1};
        long[] fewest = {1, 2, 0, 500, 0, 0, 0, 1, -1, 0, 0};
        long[] waysOfFewest = {0, 0, 1, 2, 0, 2, 2, 1, 0, 2};
        check.same("2: digest()", with(2, 0, 0).digest(), wrapped(joined(fewest, patrons, waysOfFewest)));
        long[] most = {3, 1728, 0, 500, 0, 0, 0, 1, -1, 0, 0};
        long[] waysOfMost = {15, 1708, 864, 12, 397, 1713, 20, 864, 1716, 1331};
        check.same("12, 12, 12: digest()", with(12, 12, 12).digest(), wrapped(joined(most, patrons, waysOfMost)));
    }

    /** "Computes a checksum": the same each time, and nothing is changed. */
    void digestChangesNothing() {
        TavernDice x = withTwo();
        long first = x.digest();
        check.same("digest() again", x.digest(), first);
        check.same("open()", x.open(), 2);
        check.same("rounds()", x.rounds(), 0);
        check.same("bank()", x.bank(), 500);
        check.same("purseOf(0)", x.purseOf(0), 90);
    }
}
