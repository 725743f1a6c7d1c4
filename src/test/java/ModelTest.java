/**
 * Long runs of mixed calls on a hall and on the model, call by call; promise 20 above all,
 * for the model runs the replay that the hall spares itself.
 */
public final class ModelTest {
    private static final int RUNS = 3000, CALLS = 512;
    private static final Step.Name[] NAMES = Step.Name.values();
    private static final Checks checks = new Checks();

    // How often the runs came to what the document says of edges: they must, or they show nothing.
    private static int full, forced, failedWaves, rounds, states, arguments, outs, heardThree, replayed;

    private long seed;
    private final int[] weights = new int[NAMES.length];
    private final int wrongIn;
    private final Spritehall hall = new Spritehall();
    private final Model model = new Model();

    private ModelTest(int run) {
        seed = run;
        for (int i = 0; i < weights.length; i++) {
            weights[i] = 1 + below(3);
        }
        // Each run has its own leaning, so that some fill the hall and others run many frames.
        weights[Step.Name.SPAWN.ordinal()] += below(30);
        weights[Step.Name.UNROOT.ordinal()] += below(12);
        weights[Step.Name.TIE.ordinal()] += below(20);
        weights[Step.Name.UNTIE.ordinal()] += below(12);
        weights[Step.Name.WAVE.ordinal()] += below(8);
        weights[Step.Name.FRAME.ordinal()] += below(40);
        weights[Step.Name.SOUND.ordinal()] += below(8);
        weights[Step.Name.HEARD.ordinal()] += below(8);
        if (below(2) == 0) {
            weights[Step.Name.SWEEP.ordinal()] = 0;
        }
        wrongIn = 3 + below(60);
    }

    public static void main(String[] args) {
        for (int run = 0; run < RUNS; run++) {
            new ModelTest(run).run(run);
        }
        reached("40 actors", full);
        reached("sweeps for a slot", forced);
        reached("waves without room", failedWaves);
        reached("rounds of the sweep", rounds);
        reached("IllegalStateException", states);
        reached("IllegalArgumentException", arguments);
        reached("IndexOutOfBoundsException", outs);
        reached("three voices", heardThree);
        reached("replays of some held", replayed);
        checks.end();
    }

    private static void reached(String what, int times) {
        System.out.println(what + ": " + times);
        checks.due(what + " were reached", true, times >= 100);
    }

    private void run(int run) {
        for (int i = 0; i < CALLS; i++) {
            Step step = next();
            long want = model.answer(step);
            long got = step.on(hall);
            note(step, want);
            if (want != got) {
                checks.fail("run " + run + ", call " + i + ": " + step + " answered " + Step.told(got)
                        + ", due is " + Step.told(want));
                return;
            }
        }
        checks.due("run " + run, 0, 0);
        full += model.came() == 40 ? 1 : 0;
        forced += model.forcedSweeps;
        failedWaves += model.wavesThatFailed;
        rounds += model.rounds;
    }

    private static void note(Step step, long want) {
        states += want == Step.STATE ? 1 : 0;
        arguments += want == Step.ARGUMENT ? 1 : 0;
        outs += want == Step.OUT ? 1 : 0;
        heardThree += step.name() == Step.Name.HEARD && Long.bitCount(want) == 3 ? 1 : 0;
        replayed += step.name() == Step.Name.SUM_BY_REPLAY && want > 0 ? 1 : 0;
    }

    private Step next() {
        Step.Name name = nextName();
        return switch (name) {
            case SPAWN -> Step.of(name, below(2) == 0 ? -1 : handle(), within(0, 9), within(-1, 1), within(0, 1), within(1, 9));
            case WAVE -> Step.of(name, frameOfWave(), within(0, 9), within(-1, 1), within(0, 1), within(1, 9));
            case TIE -> Step.of(name, handle(), handle(), within(0, 2));
            case UNTIE, LINK_AT -> Step.of(name, handle(), within(0, 2));
            case FRAME -> Step.of(name, below(3) == 0 ? within(0, 50) : within(0, 6));
            case AGE -> Step.of(name, within(0, 11));
            case LISTEN -> Step.of(name, within(0, 9));
            case UNROOT, IS_HELD, NUMBER, CELL, LIVES, COUNT, SOUND -> Step.of(name, handle());
            case HELD, FRAMES, SWEEP, FREE, SUM, SUM_BY_REPLAY, HEARD -> Step.of(name);
        };
    }

    private Step.Name nextName() {
        int all = 0;
        for (int weight : weights) {
            all += weight;
        }
        int left = below(all);
        int i = 0;
        while (left >= weights[i]) {
            left -= weights[i];
            i++;
        }
        return NAMES[i];
    }

    private int frameOfWave() {
        int frames = (int) model.answer(Step.of(Step.Name.FRAMES));
        return below(wrongIn) == 0 ? frames - 1 - below(2) : frames + below(below(4) == 0 ? 30 : 3);
    }

    private int handle() {
        int odd = below(wrongIn);
        if (odd == 0 || model.came() == 0) {
            return within(-2, 1300);
        }
        if (odd == 1) {
            return model.handleOf(below(model.came()));
        }
        // Mostly one that is held, if any is.
        for (int tries = 0; tries < 40; tries++) {
            int handle = model.handleOf(below(model.came()));
            if (model.answer(Step.of(Step.Name.IS_HELD, handle)) == 1) {
                return handle;
            }
        }
        return model.handleOf(model.came() - 1);
    }

    private int within(int least, int most) {
        int odd = below(wrongIn * 12);
        return switch (odd) {
            case 0 -> least - 1;
            case 1 -> most + 1;
            case 2 -> Integer.MIN_VALUE;
            case 3 -> Integer.MAX_VALUE;
            default -> least + below(most - least + 1);
        };
    }

    private int below(int bound) {
        seed = seed * 6364136223846793005L + 1442695040888963407L;
        return (int) ((seed >>> 33) % bound);
    }
}
