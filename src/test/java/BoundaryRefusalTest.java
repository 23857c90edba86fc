/**
 * "A method that throws an exception changes nothing. If several exceptions apply, the one that is named first is
 * thrown." Each method tests that of one method that throws: it is refused by one of two ledgers that were made in the
 * same way, and all that can be asked of the two then, and what follows, is compared.
 */
final class BoundaryRefusalTest extends Sentences {
    private static final int STATES = 5;

    public static void main(String[] args) {
        new BoundaryRefusalTest().runAll();
    }

    /** A call that is to be refused. */
    private interface Call {
        void on(TavernDice x);
    }

    /** 0 without wagers, 1 with three, 2 with twelve, 3 with empty purses, 4 with other dice and a poor house. */
    private static TavernDice ledger(int state) {
        TavernDice x = new TavernDice();
        x.setDice(3, 4, 0);
        if (state == 1) {
            x.lay(0, 0, 4, 30, 4, 1);
            x.lay(0, 8, 0, 20, 2, 1);
            x.lay(5, 4, 4, 10, 1, 3);
        } else if (state == 2) {
            for (int i = 0; i < 12; i++) {
                x.lay(i % 6, i % 10, i % 5, i + 1, 20 - i, i % 10 + 1);
            }
        } else if (state == 3) {
            for (int patron = 0; patron < 6; patron++) {
                x.lay(patron, patron, 4, 100, patron + 1, 2);
            }
        } else if (state == 4) {
            x.lay(1, 1, 0, 100, 20, 1);
            x.settle(11);
            x.setDice(2, 2, 3);
            x.lay(1, 3, 0, 60, 3, 1);
        }
        return x;
    }

    /** All that a ledger answers, and what comes of a throw: fewer calls than the 512 that an object has. */
    private static String all(TavernDice x) {
        StringBuilder all = new StringBuilder();
        long[] house = {x.dice(), x.outcomes(), x.open(), x.bank(), x.rounds(), x.staked(), x.allEdgesTop(),
            x.allEdgesBottom(), x.dearestWager(), x.worstGain(), x.worstOutcome(), x.digest()};
        tell(all, "house", house);
        for (int i = 0; i < x.outcomes(); i++) {
            tell(all, "outcome", new long[] {i, x.sumOf(i), x.gainAt(i), x.purseAt(0, i), x.purseAt(1, i),
                x.purseAt(5, i)});
        }
        for (int i = 0; i < x.open(); i++) {
            tell(all, "wager", new long[] {i, x.patronOf(i), x.stakeOf(i), x.bringsOf(i), x.edgeTop(i), x.edgeBottom(i),
                x.hedgeFor(i, 1, 2)});
        }
        for (int i = 0; i < 6; i++) {
            tell(all, "patron", new long[] {i, x.purseOf(i), x.leastPurse(i), x.isHedged(i) ? 1 : 0});
        }
        for (int kind = 0; kind < 10; kind++) {
            tell(all, "ways", new long[] {kind, x.ways(kind, 2), x.ways(kind, 4), x.fairWin(kind, 3, 2)});
        }
        tell(all, "settled", new long[] {x.settle(2), x.bank(), x.rounds(), x.open(), x.purseOf(0), x.purseOf(1),
            x.purseOf(5), x.lay(1, 0, 7, 1, 1, 1), x.takeBack(0), x.digest()});
        return all.toString();
    }

    private static void tell(StringBuilder all, String of, long[] numbers) {
        all.append(of);
        for (long number : numbers) {
            all.append(' ').append(number);
        }
        all.append('\n');
    }

    /** What is left behind a refusal is compared with a ledger that was made in the same way and refused nothing. */
    private void refused(int state, String name, Class<?> due, Call call) {
        TavernDice x = ledger(state);
        check.fails(name + " in state " + state, x, due, () -> call.on(x));
        if (!all(x).equals(all(ledger(state)))) {
            check.tell(name + " in state " + state + " was refused and changed something");
        }
    }

    private void refusedInEachState(String name, Class<?> due, Call call) {
        for (int state = 0; state < STATES; state++) {
            refused(state, name, due, call);
        }
    }

    void setDiceRefused() {
        refusedInEachState("setDice(1, 6, 6)", Check.ARGUMENT, x -> x.setDice(1, 6, 6));
        refusedInEachState("setDice(13, 6, 6)", Check.ARGUMENT, x -> x.setDice(13, 6, 6));
        refusedInEachState("setDice(6, 1, 6)", Check.ARGUMENT, x -> x.setDice(6, 1, 6));
        refusedInEachState("setDice(6, 6, 13)", Check.ARGUMENT, x -> x.setDice(6, 6, 13));
        refusedInEachState("setDice(6, 0, 6)", Check.ARGUMENT, x -> x.setDice(6, 0, 6));
        for (int state = 1; state < STATES; state++) {
            refused(state, "setDice(6, 6, 6)", Check.STATE, x -> x.setDice(6, 6, 6));
            refused(state, "setDice(2, 0, 0)", Check.STATE, x -> x.setDice(2, 0, 0));
            refused(state, "setDice(4, 3, 0)", Check.STATE, x -> x.setDice(4, 3, 0));
        }
    }

    void layRefusedForAPatron() {
        refusedInEachState("lay of patron -1", Check.INDEX, x -> x.lay(-1, 0, 7, 10, 1, 1));
        refusedInEachState("lay of patron 6", Check.INDEX, x -> x.lay(6, 0, 7, 10, 1, 1));
    }

    void layRefusedForAnArgument() {
        refusedInEachState("lay on kind 10", Check.ARGUMENT, x -> x.lay(0, 10, 7, 10, 1, 1));
        refusedInEachState("lay on number 37", Check.ARGUMENT, x -> x.lay(0, 0, 37, 10, 1, 1));
        refusedInEachState("lay of stake 0", Check.ARGUMENT, x -> x.lay(0, 0, 7, 0, 1, 1));
        refusedInEachState("lay of stake -5", Check.ARGUMENT, x -> x.lay(0, 0, 7, -5, 1, 1));
        refusedInEachState("lay of stake 101", Check.ARGUMENT, x -> x.lay(1, 0, 7, 101, 1, 1));
        refusedInEachState("lay at win 21", Check.ARGUMENT, x -> x.lay(0, 0, 7, 10, 21, 1));
        refusedInEachState("lay at base 0", Check.ARGUMENT, x -> x.lay(0, 0, 7, 10, 1, 0));
        refusedInEachState("lay at base 11", Check.ARGUMENT, x -> x.lay(0, 0, 7, 10, 1, 11));
    }

    void layRefusedForAState() {
        refused(1, "lay 51 of 50", Check.STATE, x -> x.lay(0, 0, 7, 51, 1, 1));
        refused(2, "lay a 13th", Check.STATE, x -> x.lay(1, 0, 7, 1, 1, 1));
        refused(3, "lay 1 of 0", Check.STATE, x -> x.lay(5, 0, 7, 1, 1, 1));
    }

    void takeBackRefused() {
        refusedInEachState("takeBack(-1)", Check.INDEX, x -> x.takeBack(-1));
        refusedInEachState("takeBack(12)", Check.INDEX, x -> x.takeBack(12));
        refused(0, "takeBack(0)", Check.INDEX, x -> x.takeBack(0));
        refused(1, "takeBack(3)", Check.INDEX, x -> x.takeBack(3));
        refused(3, "takeBack(6)", Check.INDEX, x -> x.takeBack(6));
        refused(4, "takeBack(1)", Check.INDEX, x -> x.takeBack(1));
    }

    void settleRefused() {
        refusedInEachState("settle(-1)", Check.INDEX, x -> x.settle(-1));
        refusedInEachState("settle(12)", Check.INDEX, x -> x.settle(12));
    }

    void sumOfRefused() {
        refusedInEachState("sumOf(-1)", Check.INDEX, x -> x.sumOf(-1));
        refusedInEachState("sumOf(12)", Check.INDEX, x -> x.sumOf(12));
    }

    void waysAndChanceRefused() {
        refusedInEachState("ways(10, 0)", Check.ARGUMENT, x -> x.ways(10, 0));
        refusedInEachState("ways(0, 37)", Check.ARGUMENT, x -> x.ways(0, 37));
        refusedInEachState("chance(-1, 0)", Check.ARGUMENT, x -> x.chance(-1, 0));
        refusedInEachState("chance(0, -1)", Check.ARGUMENT, x -> x.chance(0, -1));
    }

    void ofAPatronRefused() {
        refusedInEachState("purseOf(6)", Check.INDEX, x -> x.purseOf(6));
        refusedInEachState("leastPurse(-1)", Check.INDEX, x -> x.leastPurse(-1));
        refusedInEachState("isHedged(6)", Check.INDEX, x -> x.isHedged(6));
    }

    void ofAWagerRefused() {
        refusedInEachState("patronOf(12)", Check.INDEX, x -> x.patronOf(12));
        refusedInEachState("stakeOf(-1)", Check.INDEX, x -> x.stakeOf(-1));
        refusedInEachState("bringsOf(12)", Check.INDEX, x -> x.bringsOf(12));
        refusedInEachState("edgeTop(12)", Check.INDEX, x -> x.edgeTop(12));
        refusedInEachState("edgeBottom(-1)", Check.INDEX, x -> x.edgeBottom(-1));
    }

    void whatWouldBeRefused() {
        refusedInEachState("gainAt(12)", Check.INDEX, x -> x.gainAt(12));
        refusedInEachState("purseAt(6, 0)", Check.INDEX, x -> x.purseAt(6, 0));
        refusedInEachState("purseAt(0, 12)", Check.INDEX, x -> x.purseAt(0, 12));
        refusedInEachState("hedgeFor(12, 1, 1)", Check.INDEX, x -> x.hedgeFor(12, 1, 1));
        for (int state = 1; state < STATES; state++) {
            refused(state, "hedgeFor(0, 0, 1)", Check.ARGUMENT, x -> x.hedgeFor(0, 0, 1));
            refused(state, "hedgeFor(0, 1, 0)", Check.ARGUMENT, x -> x.hedgeFor(0, 1, 0));
        }
        refusedInEachState("fairWin(10, 0, 1)", Check.ARGUMENT, x -> x.fairWin(10, 0, 1));
        refusedInEachState("fairWin(0, 37, 1)", Check.ARGUMENT, x -> x.fairWin(0, 37, 1));
        refusedInEachState("fairWin(0, 0, 0)", Check.ARGUMENT, x -> x.fairWin(0, 0, 0));
    }

    /** setDice: a wrong die is named ahead of open wagers. */
    void setDiceNamesTheFirst() {
        int[][] wrong = {{1, 6, 6}, {13, 0, 0}, {6, 1, 0}, {6, 13, 6}, {6, 6, 1}, {6, 6, 13}, {6, 0, 6}};
        for (int[] w : wrong) {
            refused(2, "setDice(" + w[0] + ", " + w[1] + ", " + w[2] + ")", Check.ARGUMENT,
                x -> x.setDice(w[0], w[1], w[2]));
        }
    }

    /** lay: no such patron is named ahead of a wrong argument, each of them by itself. */
    void layNamesThePatronAheadOfArguments() {
        int[] patrons = {-1, 6};
        for (int patron : patrons) {
            refused(0, "lay, patron and kind", Check.INDEX, x -> x.lay(patron, 10, 7, 10, 1, 1));
            refused(0, "lay, patron and number", Check.INDEX, x -> x.lay(patron, 0, 37, 10, 1, 1));
            refused(0, "lay, patron and stake", Check.INDEX, x -> x.lay(patron, 0, 7, 0, 1, 1));
            refused(0, "lay, patron and win", Check.INDEX, x -> x.lay(patron, 0, 7, 10, 21, 1));
            refused(0, "lay, patron and base", Check.INDEX, x -> x.lay(patron, 0, 7, 10, 1, 0));
            refused(0, "lay, all wrong", Check.INDEX, x -> x.lay(patron, -1, -1, -1, -1, -1));
        }
    }

    /** lay: no such patron is named ahead of twelve that are open. */
    void layNamesThePatronAheadOfTheTwelve() {
        refused(2, "lay, patron -1 and twelve", Check.INDEX, x -> x.lay(-1, 0, 7, 10, 1, 1));
        refused(2, "lay, patron 6 and twelve", Check.INDEX, x -> x.lay(6, 0, 7, 10, 1, 1));
    }

    /** lay: a wrong argument, each of them by itself, is named ahead of twelve that are open. */
    void layNamesArgumentsAheadOfTheTwelve() {
        namesArguments(2, 10);
    }

    /** lay: a wrong argument, each of them by itself, is named ahead of a purse that has less than the stake. */
    void layNamesArgumentsAheadOfThePurse() {
        namesArguments(3, 10);
    }

    private void namesArguments(int state, int stake) {
        refused(state, "lay, kind", Check.ARGUMENT, x -> x.lay(0, -1, 7, stake, 1, 1));
        refused(state, "lay, kind", Check.ARGUMENT, x -> x.lay(0, 10, 7, stake, 1, 1));
        refused(state, "lay, number", Check.ARGUMENT, x -> x.lay(0, 0, -1, stake, 1, 1));
        refused(state, "lay, number", Check.ARGUMENT, x -> x.lay(0, 0, 37, stake, 1, 1));
        refused(state, "lay, stake", Check.ARGUMENT, x -> x.lay(0, 0, 7, 0, 1, 1));
        refused(state, "lay, stake", Check.ARGUMENT, x -> x.lay(0, 0, 7, 101, 1, 1));
        refused(state, "lay, win", Check.ARGUMENT, x -> x.lay(0, 0, 7, stake, 0, 1));
        refused(state, "lay, win", Check.ARGUMENT, x -> x.lay(0, 0, 7, stake, 21, 1));
        refused(state, "lay, base", Check.ARGUMENT, x -> x.lay(0, 0, 7, stake, 1, 0));
        refused(state, "lay, base", Check.ARGUMENT, x -> x.lay(0, 0, 7, stake, 1, 11));
    }

    /** hedgeFor: no such wager is named ahead of wrong odds, without wagers and with twelve. */
    void hedgeForNamesTheWagerAheadOfOdds() {
        int[] wagers = {-1, 12};
        for (int wager : wagers) {
            refusedInEachState("hedgeFor, wager and win 0", Check.INDEX, x -> x.hedgeFor(wager, 0, 1));
            refusedInEachState("hedgeFor, wager and win 21", Check.INDEX, x -> x.hedgeFor(wager, 21, 1));
            refusedInEachState("hedgeFor, wager and base 0", Check.INDEX, x -> x.hedgeFor(wager, 1, 0));
            refusedInEachState("hedgeFor, wager and base 11", Check.INDEX, x -> x.hedgeFor(wager, 1, 11));
        }
        refused(0, "hedgeFor(0, 0, 0) of none", Check.INDEX, x -> x.hedgeFor(0, 0, 0));
    }
}
