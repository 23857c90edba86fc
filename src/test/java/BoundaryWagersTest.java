/** The boundary cases of patrons and wagers, and of promises 8 to 10: each method tests one sentence. */
final class BoundaryWagersTest extends Sentences {
    public static void main(String[] args) {
        new BoundaryWagersTest().runAll();
    }

    private static TavernDice withTwelve() {
        TavernDice x = new TavernDice();
        for (int i = 0; i < 12; i++) {
            x.lay(i % 6, 0, 7, i + 1, 1, 1);
        }
        return x;
    }

    /** Lays it on a new ledger, and tells what it brings. */
    private void lays(int patron, int kind, int number, int stake, int win, int base, int brings) {
        TavernDice x = new TavernDice();
        String call = "lay(" + patron + ", " + kind + ", " + number + ", " + stake + ", " + win + ", " + base + ")";
        check.same(call, x.lay(patron, kind, number, stake, win, base), 0);
        check.same(call + ", patronOf(0)", x.patronOf(0), patron);
        check.same(call + ", stakeOf(0)", x.stakeOf(0), stake);
        check.same(call + ", bringsOf(0)", x.bringsOf(0), brings);
    }

    private void refuses(Class<?> due, int patron, int kind, int number, int stake, int[] odds) {
        TavernDice x = new TavernDice();
        String call = "lay(" + patron + ", " + kind + ", " + number + ", " + stake + ", " + odds[0] + ", " + odds[1]
            + ")";
        check.fails(call, x, due, () -> x.lay(patron, kind, number, stake, odds[0], odds[1]));
        check.same(call + ", open()", x.open(), 0);
    }

    private static int[] odds(int win, int base) {
        return new int[] {win, base};
    }

    // ---- Terms

    /** "each has a purse (100, at first)". */
    void aPurseHas100AtFirst() {
        TavernDice x = new TavernDice();
        for (int patron = 0; patron <= 5; patron++) {
            check.same("purseOf(" + patron + ")", x.purseOf(patron), 100);
            check.same("lay all of it", x.lay(patron, 0, 7, 100, 1, 1), patron);
            check.same("purseOf(" + patron + ") then", x.purseOf(patron), 0);
        }
    }

    /** "The house has a bank, which may be less than 0 (500, at first)". */
    void theBankMayBeLessThan0() {
        TavernDice x = new TavernDice();
        check.same("bank()", x.bank(), 500);
        x.lay(0, 1, 0, 100, 5, 1);
        check.same("settle(0) of 500", x.settle(0), -500);
        check.same("bank() of nothing", x.bank(), 0);
        x.lay(1, 1, 0, 1, 1, 1);
        check.same("settle(0) of 1", x.settle(0), -1);
        check.same("bank() less than 0", x.bank(), -1);
        x.lay(2, 1, 0, 100, 20, 1);
        check.same("settle(0) of 2000", x.settle(0), -2000);
        check.same("bank() far less than 0", x.bank(), -2001);
    }

    /** "numbered from 0 in the order in which they were laid". */
    void wagersAreNumberedFrom0InTheirOrder() {
        TavernDice x = new TavernDice();
        for (int i = 0; i < 12; i++) {
            check.same("lay", x.lay(5 - i % 6, 0, 7, 12 - i, 1, 1), i);
        }
        for (int i = 0; i < 12; i++) {
            check.same("patronOf(" + i + ")", x.patronOf(i), 5 - i % 6);
            check.same("stakeOf(" + i + ")", x.stakeOf(i), 12 - i);
        }
    }

    /** "the stake goes from the purse to the house, which keeps it apart". */
    void theStakeIsKeptApart() {
        TavernDice x = new TavernDice();
        x.lay(3, 0, 7, 100, 20, 1);
        check.same("purseOf(3)", x.purseOf(3), 0);
        check.same("purseOf(2)", x.purseOf(2), 100);
        check.same("purseOf(4)", x.purseOf(4), 100);
        check.same("bank()", x.bank(), 500);
        check.same("staked()", x.staked(), 100);
    }

    /** "It brings stake * win / base", "/ is cut towards 0": just below a whole number, on it, and nothing at all. */
    void whatItBringsIsCutTowards0() {
        lays(0, 0, 7, 9, 1, 10, 0);
        lays(0, 0, 7, 10, 1, 10, 1);
        lays(0, 0, 7, 19, 1, 10, 1);
        lays(0, 0, 7, 1, 9, 10, 0);
        lays(0, 0, 7, 1, 10, 10, 1);
        lays(0, 0, 7, 7, 3, 7, 3);
        lays(0, 0, 7, 13, 5, 8, 8);
        lays(0, 0, 7, 1, 1, 10, 0);
        lays(0, 0, 7, 100, 20, 1, 2000);
    }

    /** "if its event comes: the patron gets that and the stake, the bank has that less". */
    void ifTheEventComes() {
        TavernDice x = new TavernDice();
        x.lay(5, 0, 12, 40, 3, 2);
        check.same("settle(35)", x.settle(35), -60);
        check.same("purseOf(5)", x.purseOf(5), 160);
        check.same("bank()", x.bank(), 440);
    }

    /** The same sentence, with nothing to bring: the patron has the stake back, and the house gains nothing. */
    void ifTheEventComesAndBringsNothing() {
        TavernDice x = new TavernDice();
        x.lay(5, 0, 12, 9, 1, 10);
        check.same("settle(35)", x.settle(35), 0);
        check.same("purseOf(5)", x.purseOf(5), 100);
        check.same("bank()", x.bank(), 500);
    }

    /** "Otherwise the bank gets the stake." */
    void ifTheEventDoesNotCome() {
        TavernDice x = new TavernDice();
        x.lay(5, 0, 12, 40, 3, 2);
        check.same("settle(34)", x.settle(34), 40);
        check.same("purseOf(5)", x.purseOf(5), 60);
        check.same("bank()", x.bank(), 540);
    }

    // ---- Promise 8: lay

    /** "IndexOutOfBoundsException if patron is not 0 to 5". */
    void layTakesPatrons0To5() {
        lays(0, 0, 7, 10, 1, 1, 10);
        lays(5, 0, 7, 10, 1, 1, 10);
        int[] wrong = {-6, -1, 6, 7, 12};
        for (int patron : wrong) {
            refuses(Check.INDEX, patron, 0, 7, 10, odds(1, 1));
        }
        for (int far : FAR) {
            refuses(Check.INDEX, far, 0, 7, 10, odds(1, 1));
        }
    }

    /** "IllegalArgumentException if kind is not 0 to 9". */
    void layTakesKinds0To9() {
        lays(0, 0, 7, 10, 1, 1, 10);
        lays(0, 9, 7, 10, 1, 1, 10);
        int[] wrong = {-5, -1, 10, 11, 14};
        for (int kind : wrong) {
            refuses(Check.ARGUMENT, 0, kind, 7, 10, odds(1, 1));
        }
        for (int far : FAR) {
            refuses(Check.ARGUMENT, 0, far, 7, 10, odds(1, 1));
        }
    }

    /** "number is not 0 to 36": for each kind, those too whose number says nothing. */
    void layTakesNumbers0To36() {
        for (int kind = 0; kind <= 9; kind++) {
            lays(0, kind, 0, 10, 1, 1, 10);
            lays(0, kind, 36, 10, 1, 1, 10);
            refuses(Check.ARGUMENT, 0, kind, -1, 10, odds(1, 1));
            refuses(Check.ARGUMENT, 0, kind, 37, 10, odds(1, 1));
        }
        for (int far : FAR) {
            refuses(Check.ARGUMENT, 0, 4, far, 10, odds(1, 1));
        }
    }

    /** "stake is not 1 to 100". */
    void layTakesStakes1To100() {
        lays(0, 0, 7, 1, 1, 1, 1);
        lays(0, 0, 7, 100, 1, 1, 100);
        int[] wrong = {-100, -1, 0, 101, 102};
        for (int stake : wrong) {
            refuses(Check.ARGUMENT, 0, 0, 7, stake, odds(1, 1));
        }
        for (int far : FAR) {
            refuses(Check.ARGUMENT, 0, 0, 7, far, odds(1, 1));
        }
    }

    /** The same sentence, with a purse that has more than 100. */
    void layTakesNoMoreThan100OfALargerPurse() {
        TavernDice x = new TavernDice();
        x.lay(0, 1, 0, 100, 20, 1);
        x.settle(0);
        check.same("purseOf(0)", x.purseOf(0), 2100);
        check.fails("lay 101 of 2100", x, Check.ARGUMENT, () -> x.lay(0, 0, 7, 101, 1, 1));
        check.same("lay 100 of 2100", x.lay(0, 0, 7, 100, 1, 1), 0);
        check.same("purseOf(0) then", x.purseOf(0), 2000);
    }

    /** "win is not 1 to 20". */
    void layTakesWins1To20() {
        lays(0, 0, 7, 10, 1, 1, 10);
        lays(0, 0, 7, 10, 20, 1, 200);
        int[] wrong = {-20, -1, 0, 21, 22};
        for (int win : wrong) {
            refuses(Check.ARGUMENT, 0, 0, 7, 10, odds(win, 1));
        }
        for (int far : FAR) {
            refuses(Check.ARGUMENT, 0, 0, 7, 10, odds(far, 1));
        }
    }

    /** "or base is not 1 to 10". */
    void layTakesBases1To10() {
        lays(0, 0, 7, 10, 3, 1, 30);
        lays(0, 0, 7, 10, 3, 10, 3);
        int[] wrong = {-10, -1, 0, 11, 12};
        for (int base : wrong) {
            refuses(Check.ARGUMENT, 0, 0, 7, 10, odds(3, base));
        }
        for (int far : FAR) {
            refuses(Check.ARGUMENT, 0, 0, 7, 10, odds(3, far));
        }
    }

    /** "IllegalStateException if 12 are open", "At most 12 are open". */
    void layRefusesA13th() {
        TavernDice x = new TavernDice();
        for (int i = 0; i < 11; i++) {
            x.lay(0, 0, 7, 1, 1, 1);
        }
        check.same("lay with 11 open", x.lay(1, 0, 7, 1, 1, 1), 11);
        for (int p = 0; p <= 5; p++) {
            int patron = p;
            check.fails("lay with 12 open", x, Check.STATE, () -> x.lay(patron, 0, 7, 1, 1, 1));
        }
        check.same("open()", x.open(), 12);
    }

    /** The same sentence: there is room again behind takeBack, and behind settle. */
    void layTakesOneAgainAsSoonAsThereIsRoom() {
        TavernDice x = withTwelve();
        x.takeBack(0);
        check.same("lay behind takeBack", x.lay(0, 0, 7, 1, 1, 1), 11);
        check.fails("lay a 13th again", x, Check.STATE, () -> x.lay(0, 0, 7, 1, 1, 1));
        x.settle(0);
        for (int i = 0; i < 12; i++) {
            check.same("lay behind settle", x.lay(5, 0, 7, 1, 1, 1), i);
        }
        check.fails("lay a 13th once more", x, Check.STATE, () -> x.lay(0, 0, 7, 1, 1, 1));
    }

    /** "or the purse has less than the stake": just enough is enough. */
    void layRefusesMoreThanThePurseHas() {
        TavernDice x = new TavernDice();
        x.lay(0, 0, 7, 1, 1, 1);
        check.fails("lay 100 of 99", x, Check.STATE, () -> x.lay(0, 0, 7, 100, 1, 1));
        check.same("lay 99 of 99", x.lay(0, 0, 7, 99, 1, 1), 1);
        check.same("purseOf(0)", x.purseOf(0), 0);
        check.fails("lay 1 of 0", x, Check.STATE, () -> x.lay(0, 0, 7, 1, 1, 1));
        check.same("lay 100 of another's 100", x.lay(1, 0, 7, 100, 1, 1), 2);
        x.takeBack(0);
        check.same("lay 1 of 1 that was taken back", x.lay(0, 0, 7, 1, 1, 1), 2);
    }

    // ---- Promise 9: takeBack

    /** "IndexOutOfBoundsException if there is no such wager". */
    void takeBackRefusesNoSuchWager() {
        TavernDice none = new TavernDice();
        check.fails("takeBack(0) of none", none, Check.INDEX, () -> none.takeBack(0));
        check.fails("takeBack(-1) of none", none, Check.INDEX, () -> none.takeBack(-1));
        TavernDice x = withTwelve();
        int[] wrong = {-1, 12, 13};
        for (int wager : wrong) {
            check.fails("takeBack(" + wager + ") of 12", x, Check.INDEX, () -> x.takeBack(wager));
        }
        for (int far : FAR) {
            check.fails("takeBack(" + far + ") of 12", x, Check.INDEX, () -> x.takeBack(far));
        }
        check.same("takeBack(11) of 12", x.takeBack(11), 12);
        check.fails("takeBack(11) of 11", x, Check.INDEX, () -> x.takeBack(11));
        x.settle(0);
        check.fails("takeBack(0) behind settle", x, Check.INDEX, () -> x.takeBack(0));
    }

    /** "Those behind it have a number 1 less then": of the first all, of the last none; those ahead keep theirs. */
    void takeBackMovesThoseBehind() {
        TavernDice first = withTwelve();
        check.same("takeBack(0)", first.takeBack(0), 1);
        for (int i = 0; i < 11; i++) {
            check.same("stakeOf(" + i + ")", first.stakeOf(i), i + 2);
            check.same("patronOf(" + i + ")", first.patronOf(i), (i + 1) % 6);
        }
        TavernDice middle = withTwelve();
        check.same("takeBack(5)", middle.takeBack(5), 6);
        for (int i = 0; i < 11; i++) {
            check.same("stakeOf(" + i + ")", middle.stakeOf(i), i < 5 ? i + 1 : i + 2);
        }
        TavernDice last = withTwelve();
        check.same("takeBack(11)", last.takeBack(11), 12);
        for (int i = 0; i < 11; i++) {
            check.same("stakeOf(" + i + ")", last.stakeOf(i), i + 1);
        }
    }

    /** "the patron gets the stake back": that patron alone, and nothing else is changed but how many are open. */
    void takeBackGivesTheStakeBack() {
        TavernDice x = new TavernDice();
        x.lay(4, 0, 7, 100, 20, 1);
        x.lay(5, 0, 7, 1, 20, 1);
        check.same("takeBack(0), the greatest stake", x.takeBack(0), 100);
        check.same("purseOf(4)", x.purseOf(4), 100);
        check.same("purseOf(5)", x.purseOf(5), 99);
        check.same("takeBack(0), the least stake", x.takeBack(0), 1);
        check.same("purseOf(5) then", x.purseOf(5), 100);
        check.same("bank()", x.bank(), 500);
        check.same("rounds()", x.rounds(), 0);
        check.same("open()", x.open(), 0);
        check.same("staked()", x.staked(), 0);
    }

    // ---- Promise 10: settle

    /** "IndexOutOfBoundsException if there is no such outcome". */
    void settleRefusesNoSuchOutcome() {
        TavernDice x = withTwelve();
        int[] wrong = {-1, 36, 37, 1727};
        for (int outcome : wrong) {
            check.fails("settle(" + outcome + ")", x, Check.INDEX, () -> x.settle(outcome));
        }
        for (int far : FAR) {
            check.fails("settle(" + far + ")", x, Check.INDEX, () -> x.settle(far));
        }
        check.same("open()", x.open(), 12);
        check.same("rounds()", x.rounds(), 0);
        x.settle(0);
        x.setDice(12, 12, 12);
        check.same("settle(1727) of the most", x.settle(1727), 0);
        check.fails("settle(1728) of the most", x, Check.INDEX, () -> x.settle(1728));
        x.setDice(2, 0, 0);
        check.same("settle(1) of the fewest", x.settle(1), 0);
        check.fails("settle(2) of the fewest", x, Check.INDEX, () -> x.settle(2));
    }

    /** "all open wagers are settled, and none is open then": twelve of them, the first and the last too. */
    void settleSettlesAll() {
        TavernDice x = new TavernDice();
        for (int i = 0; i < 12; i++) {
            x.lay(i % 6, 1, i == 0 || i == 11 ? 0 : 13, 10 + i, 2, 1);
        }
        check.same("settle(35)", x.settle(35), -20 - 42 + 155);
        check.same("purseOf(0), the first came", x.purseOf(0), 100 - 26 + 30);
        check.same("purseOf(5), the last came", x.purseOf(5), 100 - 36 + 63);
        check.same("purseOf(1), none came", x.purseOf(1), 100 - 28);
        check.same("open()", x.open(), 0);
        check.same("staked()", x.staked(), 0);
        check.same("bank()", x.bank(), 593);
        check.same("settle(35) again", x.settle(35), 0);
        check.same("purseOf(0) again", x.purseOf(0), 104);
        check.same("bank() again", x.bank(), 593);
    }

    /** "Throws the dice": they are thrown without wagers too. */
    void settleWithoutWagers() {
        TavernDice x = new TavernDice();
        check.same("settle(0)", x.settle(0), 0);
        check.same("settle(35)", x.settle(35), 0);
        check.same("rounds()", x.rounds(), 2);
        check.same("bank()", x.bank(), 500);
        check.same("purseOf(0)", x.purseOf(0), 100);
    }

    /** "Returns what the house gains by all of them": more than nothing, nothing, and less. */
    void settleTellsAGainAroundNothing() {
        TavernDice x = new TavernDice();
        x.lay(0, 2, 0, 50, 1, 1);
        x.lay(1, 7, 0, 49, 1, 1);
        check.same("settle(0), even", x.settle(0), 1);
        x.lay(0, 2, 0, 50, 1, 1);
        x.lay(1, 7, 0, 50, 1, 1);
        check.same("settle(0), as much", x.settle(0), 0);
        x.lay(2, 2, 0, 49, 1, 1);
        x.lay(1, 7, 0, 50, 1, 1);
        check.same("settle(0), less", x.settle(0), -1);
        check.same("bank()", x.bank(), 500);
    }
}
