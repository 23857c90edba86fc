import java.util.function.IntConsumer;

/** Promises 11 to 18: open, bank, rounds, purseOf, patronOf, stakeOf, bringsOf and staked. */
final class LedgerTest {
    private final Check check = new Check();

    public static void main(String[] args) {
        LedgerTest test = new LedgerTest();
        test.countsAndSums();
        test.ofEachWager();
        test.ofEachPatron();
        test.bringsIsCutTowards0();
        test.refusesPatrons();
        test.refusesWagers();
        test.check.end();
    }

    private void countsAndSums() {
        TavernDice x = new TavernDice();
        for (int i = 0; i < 12; i++) {
            check.same("open() ahead of " + i, x.open(), i);
            check.same("staked() ahead of " + i, x.staked(), 5 * i);
            x.lay(i % 6, 0, 7, 5, 2, 1);
        }
        check.same("open() of all", x.open(), 12);
        check.same("staked() of all", x.staked(), 60);
        check.same("bank() of all", x.bank(), 500);
        x.takeBack(3);
        check.same("open() after takeBack", x.open(), 11);
        check.same("staked() after takeBack", x.staked(), 55);
        check.same("rounds() ahead of a throw", x.rounds(), 0);
        x.settle(0);
        check.same("bank() after a throw", x.bank(), 555);
        check.same("rounds() after a throw", x.rounds(), 1);
        check.same("open() after a throw", x.open(), 0);
        check.same("staked() after a throw", x.staked(), 0);
        x.setDice(6, 0, 0);
        check.same("rounds() with other dice", x.rounds(), 1);
        check.same("bank() with other dice", x.bank(), 555);
    }

    private void ofEachWager() {
        TavernDice x = new TavernDice();
        for (int i = 0; i < 12; i++) {
            x.lay(5 - i % 6, i % 10, 3 * i, i + 1, 20 - i, i % 10 + 1);
        }
        for (int i = 0; i < 12; i++) {
            check.same("patronOf(" + i + ")", x.patronOf(i), 5 - i % 6);
            check.same("stakeOf(" + i + ")", x.stakeOf(i), i + 1);
            check.same("bringsOf(" + i + ")", x.bringsOf(i), (i + 1) * (20 - i) / (i % 10 + 1));
        }
    }

    private void ofEachPatron() {
        TavernDice x = new TavernDice();
        for (int patron = 0; patron < 6; patron++) {
            x.lay(patron, 0, 7, 10 * (patron + 1), 1, 1);
        }
        for (int patron = 0; patron < 6; patron++) {
            check.same("purseOf(" + patron + ")", x.purseOf(patron), 100 - 10 * (patron + 1));
        }
        x.settle(5);
        for (int patron = 0; patron < 6; patron++) {
            check.same("purseOf(" + patron + ") behind", x.purseOf(patron), 100 + 10 * (patron + 1));
        }
    }

    private void bringsIsCutTowards0() {
        int[][] rows = {{7, 1, 2, 3}, {9, 1, 10, 0}, {11, 7, 3, 25}, {100, 19, 9, 211}, {100, 20, 1, 2000}, {3, 5, 4, 3}};
        for (int[] row : rows) {
            TavernDice x = new TavernDice();
            x.lay(0, 0, 7, row[0], row[1], row[2]);
            check.same("bringsOf of " + row[0] + " at " + row[1] + " to " + row[2], x.bringsOf(0), row[3]);
        }
    }

    private void refusesPatrons() {
        TavernDice x = new TavernDice();
        int[] wrong = {-1, 6, Integer.MIN_VALUE, Integer.MAX_VALUE};
        for (int patron : wrong) {
            check.fails("purseOf(" + patron + ")", x, Check.INDEX, () -> x.purseOf(patron));
        }
    }

    private void refusesWagers() {
        TavernDice x = new TavernDice();
        refusesWager(x, 0);
        x.lay(0, 0, 7, 5, 2, 1);
        x.lay(0, 0, 7, 5, 2, 1);
        int[] wrong = {-1, 2, 11, 12, Integer.MIN_VALUE, Integer.MAX_VALUE};
        for (int wager : wrong) {
            refusesWager(x, wager);
        }
        x.takeBack(0);
        refusesWager(x, 1);
        x.settle(0);
        refusesWager(x, 0);
    }

    private void refusesWager(TavernDice x, int wager) {
        String[] names = {"patronOf", "stakeOf", "bringsOf"};
        IntConsumer[] calls = {x::patronOf, x::stakeOf, x::bringsOf};
        for (int i = 0; i < names.length; i++) {
            IntConsumer call = calls[i];
            check.fails(names[i] + "(" + wager + ")", x, Check.INDEX, () -> call.accept(wager));
        }
    }
}
