import java.util.Arrays;
import java.util.Random;
import java.util.function.Supplier;

/** All promises: long runs of calls, each answer or exception compared with the model's. The seeds never change. */
final class ModelTest {
    private static final int RUNS = 400;
    private static final int CALLS = 511;
    private static final int MOST_TOLD = 20;
    private static final int[] FAR = {Integer.MIN_VALUE, Integer.MIN_VALUE + 1, -1000000, -37, 37, 1728, 1000000,
        Integer.MAX_VALUE - 1, Integer.MAX_VALUE};

    private final Check check = new Check();
    private final Random random;
    private final boolean wild;
    private TavernDice x;
    private Model model;

    private ModelTest(int run) {
        random = new Random(run);
        wild = run % 4 == 0;
    }

    public static void main(String[] args) {
        int wrong = 0;
        for (int run = 0; run < RUNS && wrong < MOST_TOLD; run++) {
            ModelTest test = new ModelTest(run);
            test.run(run);
            wrong += test.check.wrong();
        }
        if (wrong != 0) {
            System.out.println(wrong + " answers are not the model's");
            System.exit(1);
        }
    }

    private void run(int run) {
        x = new TavernDice();
        model = new Model();
        boolean large = run % 10 == 0;
        call("setDice", large ? new int[] {12, 12, 12} : new int[] {faces(), orNone(faces()), 0});
        int calls = large ? CALLS / 8 : CALLS;
        for (int i = 1; i < calls && check.wrong() == 0; i++) {
            any();
        }
    }

    private void any() {
        int choice = random.nextInt(100);
        if (choice < 35) {
            call("lay", pick(6), pick(10), pick(37), 1 + pick(random.nextBoolean() ? 100 : 20), 1 + pick(20), 1 + pick(10));
        } else if (choice < 40) {
            call("takeBack", pick((int) model.open()));
        } else if (choice < 44) {
            call("settle", pick(model.outcomes()));
        } else if (choice < 46) {
            int second = orNone(faces());
            call("setDice", faces(), second, second == 0 && random.nextInt(9) > 0 ? 0 : orNone(faces()));
        } else {
            ask(choice % 27);
        }
    }

    private void ask(int choice) {
        int wager = pick((int) model.open());
        int outcome = pick(model.outcomes());
        int patron = pick(6);
        String[] plain = {"dice", "outcomes", "open", "bank", "rounds", "staked", "allEdgesTop", "allEdgesBottom",
            "dearestWager", "worstGain", "worstOutcome", "digest"};
        String[] ofWager = {"patronOf", "stakeOf", "bringsOf", "edgeTop", "edgeBottom"};
        String[] ofPatron = {"purseOf", "leastPurse", "isHedged"};
        String[] ofOutcome = {"sumOf", "gainAt"};
        if (choice < 12) {
            call(plain[choice]);
        } else if (choice < 17) {
            call(ofWager[choice - 12], wager);
        } else if (choice < 20) {
            call(ofPatron[choice - 17], patron);
        } else if (choice < 22) {
            call(ofOutcome[choice - 20], outcome);
        } else if (choice == 22) {
            call("purseAt", patron, outcome);
        } else if (choice == 23) {
            call("hedgeFor", wager, 1 + pick(20), 1 + pick(10));
        } else if (choice == 24) {
            call("fairWin", pick(10), pick(37), 1 + pick(10));
        } else if (choice == 25) {
            call("ways", pick(10), pick(37));
        } else {
            call("chance", pick(10), pick(37));
        }
    }

    /** 0 to below the bound, mostly; else one beside it, or one far off. */
    private int pick(int bound) {
        int luck = random.nextInt(wild ? 12 : 120);
        if (luck == 0) {
            return -1;
        }
        if (luck == 1) {
            return bound;
        }
        if (luck == 2) {
            return FAR[random.nextInt(FAR.length)];
        }
        return bound < 1 ? 0 : random.nextInt(bound);
    }

    private int faces() {
        return random.nextInt(wild ? 6 : 60) == 0 ? pick(14) : 2 + random.nextInt(11);
    }

    private int orNone(int faces) {
        return random.nextInt(3) == 0 ? 0 : faces;
    }

    private void call(String name, int... a) {
        Object got = answer(() -> ofClass(name, a));
        Object due = answer(() -> ofModel(name, a));
        if (!got.equals(due)) {
            check.tell(name + Arrays.toString(a) + " answered " + got + ", due is " + due);
        }
    }

    private static Object answer(Supplier<Object> call) {
        try {
            return call.get();
        } catch (RuntimeException e) {
            return e.getClass();
        }
    }

    private Object ofClass(String name, int[] a) {
        switch (name) {
            case "setDice": return (long) x.setDice(a[0], a[1], a[2]);
            case "dice": return (long) x.dice();
            case "outcomes": return (long) x.outcomes();
            case "sumOf": return (long) x.sumOf(a[0]);
            case "ways": return (long) x.ways(a[0], a[1]);
            case "chance": return x.chance(a[0], a[1]);
            case "lay": return (long) x.lay(a[0], a[1], a[2], a[3], a[4], a[5]);
            case "takeBack": return (long) x.takeBack(a[0]);
            case "settle": return (long) x.settle(a[0]);
            case "open": return (long) x.open();
            case "bank": return (long) x.bank();
            case "rounds": return (long) x.rounds();
            case "purseOf": return (long) x.purseOf(a[0]);
            case "patronOf": return (long) x.patronOf(a[0]);
            case "stakeOf": return (long) x.stakeOf(a[0]);
            case "bringsOf": return (long) x.bringsOf(a[0]);
            case "staked": return (long) x.staked();
            case "edgeTop": return (long) x.edgeTop(a[0]);
            case "edgeBottom": return (long) x.edgeBottom(a[0]);
            case "allEdgesTop": return (long) x.allEdgesTop();
            case "allEdgesBottom": return (long) x.allEdgesBottom();
            case "dearestWager": return (long) x.dearestWager();
            case "gainAt": return (long) x.gainAt(a[0]);
            case "worstGain": return (long) x.worstGain();
            case "worstOutcome": return (long) x.worstOutcome();
            case "purseAt": return (long) x.purseAt(a[0], a[1]);
            case "leastPurse": return (long) x.leastPurse(a[0]);
            case "isHedged": return x.isHedged(a[0]);
            case "hedgeFor": return (long) x.hedgeFor(a[0], a[1], a[2]);
            case "fairWin": return (long) x.fairWin(a[0], a[1], a[2]);
            case "digest": return x.digest();
            default: throw new AssertionError(name);
        }
    }

    private Object ofModel(String name, int[] a) {
        switch (name) {
            case "setDice": return model.setDice(a[0], a[1], a[2]);
            case "dice": return model.dice();
            case "outcomes": return (long) model.outcomes();
            case "sumOf": return model.sumOf(a[0]);
            case "ways": return model.ways(a[0], a[1]);
            case "chance": return model.chance(a[0], a[1]);
            case "lay": return model.lay(a[0], a[1], a[2], a[3], a[4], a[5]);
            case "takeBack": return model.takeBack(a[0]);
            case "settle": return model.settle(a[0]);
            case "open": return model.open();
            case "bank": return model.bank();
            case "rounds": return model.rounds();
            case "purseOf": return model.purseOf(a[0]);
            case "patronOf": return model.patronOf(a[0]);
            case "stakeOf": return model.stakeOf(a[0]);
            case "bringsOf": return model.bringsOf(a[0]);
            case "staked": return model.staked();
            case "edgeTop": return model.edgeTop(a[0]);
            case "edgeBottom": return model.edgeBottom(a[0]);
            case "allEdgesTop": return model.allEdgesTop();
            case "allEdgesBottom": return model.allEdgesBottom();
            case "dearestWager": return model.dearestWager();
            case "gainAt": return model.gainAt(a[0]);
            case "worstGain": return model.worstGain();
            case "worstOutcome": return model.worstOutcome();
            case "purseAt": return model.purseAt(a[0], a[1]);
            case "leastPurse": return model.leastPurse(a[0]);
            case "isHedged": return model.isHedged(a[0]);
            case "hedgeFor": return model.hedgeFor(a[0], a[1], a[2]);
            case "fairWin": return model.fairWin(a[0], a[1], a[2]);
            case "digest": return model.digest();
            default: throw new AssertionError(name);
        }
    }
}
