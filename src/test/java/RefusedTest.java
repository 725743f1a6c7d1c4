import java.util.ArrayList;
import java.util.List;

/**
 * Refused calls, each in halls that stand at different edges: a hall that has refused a call answers
 * all calls behind it as a twin does that was never asked.
 */
public final class RefusedTest {
    private static final int NONE = Spritehall.NONE;
    private static final int KEPT = Spritehall.KEPT, COUNTED = Spritehall.COUNTED, WEAK = Spritehall.WEAK;
    private static final int MIN = Integer.MIN_VALUE, MAX = Integer.MAX_VALUE;
    // Nothing is promised of an object behind that.
    private static final int MOST_CALLS = 512;
    private static final Checks checks = new Checks();

    private record Refused(Step call, long due) {
    }

    private static final class Situation {
        final String name;
        final List<Step> steps = new ArrayList<>();
        final List<Step> probe = new ArrayList<>();
        final List<Refused> refused = new ArrayList<>();
        int frames;

        Situation(String name) {
            this.name = name;
        }

        Situation then(Step.Name call, int... args) {
            steps.add(Step.of(call, args));
            frames += call == Step.Name.FRAME ? 1 : 0;
            return this;
        }

        Situation refuses(long due, Step.Name call, int... args) {
            refused.add(new Refused(Step.of(call, args), due));
            return this;
        }

        Spritehall make() {
            Spritehall hall = new Spritehall();
            for (Step step : steps) {
                long answer = step.on(hall);
                if (answer < 0) {
                    throw new IllegalStateException(name + ": " + step + " answered " + Step.told(answer));
                }
            }
            return hall;
        }
    }

    public static void main(String[] args) {
        Situation[] all = {empty(), amidARound(), eightInFullSlots(), fortyHaveCome(), fullSlotsAndThreeLinks(),
            twentyWaves(), thirtySounds(), fiveHundredFrames()};
        checks.sentence("the halls stand at their edges", RefusedTest::hallsStandAtTheirEdges);
        for (Situation situation : all) {
            refuseWhatIsOutOfRange(situation);
            checks.sentence("A call that throws an exception changes nothing: " + situation.name,
                    () -> changesNothing(situation));
        }
        checks.sentence("if several exceptions apply, the one that its throws clause names first is thrown",
                RefusedTest::firstNamed);
        checks.end();
    }

    private static void changesNothing(Situation situation) {
        if (situation.probe.isEmpty()) {
            probeAll(situation.probe);
        }
        int calls = situation.steps.size() + 1 + situation.probe.size();
        checks.due(calls + " calls are not too many", true, calls <= MOST_CALLS);
        for (Refused refused : situation.refused) {
            Spritehall hall = situation.make();
            Spritehall twin = situation.make();
            long got = refused.call.on(hall);
            checks.due(refused.call + " throws " + Step.told(refused.due), true, got == refused.due);
            for (Step step : situation.probe) {
                checks.due(step + " behind " + refused.call, step.on(twin), step.on(hall));
            }
        }
    }

    private static void hallsStandAtTheirEdges() {
        checks.due("8 are held", 8, eightInFullSlots().make().held());
        checks.due("none is free with 8 held", 0, eightInFullSlots().make().free());
        checks.due("the last of 40", 39, fortyHaveCome().make().number(311));
        checks.due("none is free with 40", 0, fortyHaveCome().make().free());
        checks.due("the third link", 103, fullSlotsAndThreeLinks().make().linkAt(100, 2));
        checks.due("none is free with 3 links", 0, fullSlotsAndThreeLinks().make().free());
        checks.due("500 frames", 500, fiveHundredFrames().make().frames());
    }

    // ---- the situations

    private static Situation empty() {
        return new Situation("an empty hall")
                .refuses(Step.OUT, Step.Name.SPAWN, 100, 0, 0, 0, 1)
                .refuses(Step.OUT, Step.Name.UNROOT, 100)
                .refuses(Step.OUT, Step.Name.TIE, 100, 101, KEPT)
                .refuses(Step.OUT, Step.Name.TIE, 100, 100, KEPT)
                .refuses(Step.OUT, Step.Name.UNTIE, 100, 0)
                .refuses(Step.OUT, Step.Name.SOUND, 100);
    }

    /** 100 keeps 101, which keeps 102; 104 is a root; 103 and 105 are lost, 105 behind the marking. */
    private static Situation amidARound() {
        Situation situation = new Situation("some held, some lost, amid a round of the sweep")
                .then(Step.Name.SPAWN, NONE, 2, 1, 0, 9).then(Step.Name.SPAWN, 100, 5, -1, 1, 9)
                .then(Step.Name.SPAWN, 101, 8, 0, 0, 9).then(Step.Name.SPAWN, NONE, 0, 0, 0, 9)
                .then(Step.Name.SPAWN, NONE, 9, 0, 1, 9).then(Step.Name.SPAWN, NONE, 4, 0, 1, 9)
                .then(Step.Name.TIE, 100, 102, WEAK).then(Step.Name.TIE, 100, 104, COUNTED)
                .then(Step.Name.TIE, 104, 101, COUNTED).then(Step.Name.TIE, 102, 100, WEAK)
                .then(Step.Name.UNROOT, 103)
                .then(Step.Name.WAVE, 2, 3, 1, 1, 5).then(Step.Name.WAVE, 4, 6, -1, 0, 5)
                .then(Step.Name.LISTEN, 3).then(Step.Name.SOUND, 100).then(Step.Name.SOUND, 104)
                .then(Step.Name.SOUND, 102).then(Step.Name.FRAME, 6).then(Step.Name.UNROOT, 105)
                .then(Step.Name.SOUND, 104);
        for (int gone : new int[] {103, 105, 106, 200}) {
            refuseAsActor(situation, gone, 104);
        }
        for (int place : new int[] {-1, 3, MIN, MAX}) {
            situation.refuses(Step.OUT, Step.Name.UNTIE, 100, place).refuses(Step.OUT, Step.Name.LINK_AT, 100, place);
        }
        return situation.refuses(Step.STATE, Step.Name.SPAWN, 100, 0, 0, 0, 1)
                .refuses(Step.STATE, Step.Name.UNROOT, 101)
                .refuses(Step.STATE, Step.Name.TIE, 100, 104, WEAK)
                .refuses(Step.ARGUMENT, Step.Name.TIE, 104, 104, KEPT)
                .refuses(Step.OUT, Step.Name.TIE, 104, 100, -1)
                .refuses(Step.OUT, Step.Name.TIE, 104, 100, 3)
                .refuses(Step.OUT, Step.Name.UNTIE, 104, 1);
    }

    private static Situation eightInFullSlots() {
        Situation situation = new Situation("8 held, and no free slot");
        addLost(situation, 1, 0, 3);
        for (int i = 0; i < 8; i++) {
            situation.then(Step.Name.SPAWN, NONE, i, i % 3 - 1, 0, 9);
        }
        situation.then(Step.Name.SOUND, 107).then(Step.Name.FRAME, 3);
        return situation.refuses(Step.STATE, Step.Name.SPAWN, NONE, 0, 0, 0, 1)
                .refuses(Step.STATE, Step.Name.SPAWN, 105, 0, 0, 0, 1)
                .refuses(Step.OUT, Step.Name.UNROOT, 101);
    }

    private static Situation fortyHaveCome() {
        Situation situation = new Situation("40 have come, and no free slot");
        addLost(situation, 1, 0, 11);
        situation.then(Step.Name.SWEEP);
        addLost(situation, 2, 0, 11);
        situation.then(Step.Name.SWEEP);
        addLost(situation, 3, 0, 3);
        situation.then(Step.Name.SWEEP).then(Step.Name.SPAWN, NONE, 4, 1, 0, 9);
        addLost(situation, 4, 1, 3);
        addLost(situation, 3, 4, 10);
        situation.then(Step.Name.SPAWN, NONE, 5, 1, 1, 9);
        return situation.refuses(Step.STATE, Step.Name.SPAWN, NONE, 0, 0, 0, 1)
                .refuses(Step.STATE, Step.Name.SPAWN, 400, 0, 0, 0, 1)
                .refuses(Step.OUT, Step.Name.UNROOT, 300);
    }

    private static Situation fullSlotsAndThreeLinks() {
        Situation situation = new Situation("an owner with 3 links, and no free slot");
        situation.then(Step.Name.SPAWN, NONE, 4, 1, 0, 9);
        for (int i = 0; i < 3; i++) {
            situation.then(Step.Name.SPAWN, 100, 3 * i, 1, 1, 9);
        }
        addLost(situation, 1, 4, 11);
        return situation.refuses(Step.STATE, Step.Name.SPAWN, 100, 0, 0, 0, 1)
                .refuses(Step.STATE, Step.Name.TIE, 100, 101, COUNTED)
                .refuses(Step.STATE, Step.Name.UNROOT, 103);
    }

    private static Situation twentyWaves() {
        Situation situation = new Situation("20 waves were told");
        for (int i = 0; i < 20; i++) {
            situation.then(Step.Name.WAVE, i / 3, i % 10, i % 3 - 1, i % 2, 1 + i % 9);
        }
        situation.then(Step.Name.FRAME, 5).then(Step.Name.FRAME, 0);
        return situation.refuses(Step.STATE, Step.Name.WAVE, 2, 0, 0, 0, 1)
                .refuses(Step.STATE, Step.Name.WAVE, 500, 9, 1, 1, 9);
    }

    private static Situation thirtySounds() {
        Situation situation = new Situation("there are 30 sounds");
        situation.then(Step.Name.SPAWN, NONE, 4, 1, 0, 9).then(Step.Name.SPAWN, NONE, 1, 1, 0, 9);
        for (int i = 0; i < 30; i++) {
            situation.then(Step.Name.SOUND, 100 + i % 2);
        }
        return situation.refuses(Step.STATE, Step.Name.SOUND, 100).refuses(Step.STATE, Step.Name.SOUND, 101)
                .refuses(Step.OUT, Step.Name.SOUND, 102);
    }

    private static Situation fiveHundredFrames() {
        Situation situation = new Situation("500 frames have run");
        situation.then(Step.Name.SPAWN, NONE, 4, 1, 0, 9).then(Step.Name.WAVE, 500, 4, 1, 0, 9);
        for (int i = 0; i < 500; i++) {
            situation.then(Step.Name.FRAME, 0);
        }
        // So few calls are left that not all can be asked.
        Step.Name[] asked = {Step.Name.FRAMES, Step.Name.HELD, Step.Name.FREE, Step.Name.SUM, Step.Name.SUM_BY_REPLAY,
            Step.Name.HEARD};
        for (Step.Name name : asked) {
            situation.probe.add(Step.of(name));
        }
        situation.probe.add(Step.of(Step.Name.LISTEN, 0));
        situation.probe.add(Step.of(Step.Name.WAVE, 500, 0, 0, 0, 1));
        situation.probe.add(Step.of(Step.Name.SPAWN, NONE, 0, 0, 0, 1));
        return situation.refuses(Step.STATE, Step.Name.FRAME, 0).refuses(Step.STATE, Step.Name.FRAME, 50)
                .refuses(Step.ARGUMENT, Step.Name.WAVE, 499, 0, 0, 0, 1);
    }

    /** Lost ones of one age, in the slots from the first to the last, which must be the next free ones. */
    private static void addLost(Situation situation, int age, int first, int last) {
        for (int slot = first; slot <= last; slot++) {
            situation.then(Step.Name.SPAWN, NONE, 0, 0, 0, 1).then(Step.Name.UNROOT, 100 * age + slot);
        }
    }

    // ---- what every hall refuses

    private static void refuseWhatIsOutOfRange(Situation situation) {
        int now = situation.frames;
        int[][] traits = {{-1, 0, 0, 1}, {10, 0, 0, 1}, {MIN, 0, 0, 1}, {MAX, 0, 0, 1}, {0, -2, 0, 1}, {0, 2, 0, 1},
            {0, MIN, 0, 1}, {0, MAX, 0, 1}, {0, 0, -1, 1}, {0, 0, 2, 1}, {0, 0, MIN, 1}, {0, 0, MAX, 1},
            {0, 0, 0, 0}, {0, 0, 0, 10}, {0, 0, 0, MIN}, {0, 0, 0, MAX}};
        for (int[] t : traits) {
            situation.refuses(Step.ARGUMENT, Step.Name.SPAWN, NONE, t[0], t[1], t[2], t[3])
                    .refuses(Step.OUT, Step.Name.SPAWN, 99, t[0], t[1], t[2], t[3])
                    .refuses(Step.ARGUMENT, Step.Name.WAVE, now, t[0], t[1], t[2], t[3]);
        }
        for (int frame : new int[] {now - 1, 501, MIN, MAX}) {
            situation.refuses(Step.ARGUMENT, Step.Name.WAVE, frame, 0, 0, 0, 1);
        }
        for (int budget : new int[] {-1, 51, MIN, MAX}) {
            situation.refuses(Step.ARGUMENT, Step.Name.FRAME, budget);
        }
        for (int slot : new int[] {-1, 12, MIN, MAX}) {
            situation.refuses(Step.OUT, Step.Name.AGE, slot);
        }
        for (int cell : new int[] {-1, 10, MIN, MAX}) {
            situation.refuses(Step.ARGUMENT, Step.Name.LISTEN, cell);
        }
        for (int handle : Halls.neverHandles()) {
            refuseAsActor(situation, handle, handle);
        }
    }

    private static void refuseAsActor(Situation situation, int handle, int other) {
        if (handle != NONE) {
            situation.refuses(Step.OUT, Step.Name.SPAWN, handle, 0, 0, 0, 1);
        }
        situation.refuses(Step.OUT, Step.Name.UNROOT, handle)
                .refuses(Step.OUT, Step.Name.TIE, handle, other, KEPT)
                .refuses(Step.OUT, Step.Name.TIE, other, handle, KEPT)
                .refuses(Step.OUT, Step.Name.TIE, handle, handle, WEAK)
                .refuses(Step.OUT, Step.Name.TIE, handle, handle, 3)
                .refuses(Step.OUT, Step.Name.UNTIE, handle, 0)
                .refuses(Step.OUT, Step.Name.NUMBER, handle)
                .refuses(Step.OUT, Step.Name.CELL, handle)
                .refuses(Step.OUT, Step.Name.LIVES, handle)
                .refuses(Step.OUT, Step.Name.LINK_AT, handle, 0)
                .refuses(Step.OUT, Step.Name.COUNT, handle)
                .refuses(Step.OUT, Step.Name.SOUND, handle);
    }

    // ---- what a hall is asked behind a refused call

    private static int[] handlesAsked() {
        return new int[] {100, 101, 102, 103, 104, 105, 106, 107, 108, 109, 110, 111, 200, 202, 311, 400};
    }

    private static void probeAll(List<Step> probe) {
        probeLooks(probe);
        for (int handle : handlesAsked()) {
            probe.add(Step.of(Step.Name.IS_HELD, handle));
            probe.add(Step.of(Step.Name.NUMBER, handle));
            probe.add(Step.of(Step.Name.CELL, handle));
            probe.add(Step.of(Step.Name.LIVES, handle));
            probe.add(Step.of(Step.Name.COUNT, handle));
            for (int place = 0; place < 3; place++) {
                probe.add(Step.of(Step.Name.LINK_AT, handle, place));
            }
        }
        probe.add(Step.of(Step.Name.LISTEN, 9));
        probe.add(Step.of(Step.Name.HEARD));
        probe.add(Step.of(Step.Name.WAVE, 500, 0, 0, 0, 1));
        for (int budget : new int[] {1, 4, 2, 0, 3, 9, 16}) {
            probe.add(Step.of(Step.Name.FRAME, budget));
            probe.add(Step.of(Step.Name.HEARD));
            probe.add(Step.of(Step.Name.HELD));
        }
        probe.add(Step.of(Step.Name.SPAWN, NONE, 3, 1, 1, 2));
        probe.add(Step.of(Step.Name.SPAWN, 104, 3, 1, 1, 2));
        probe.add(Step.of(Step.Name.SOUND, 100));
        for (int handle : handlesAsked()) {
            probe.add(Step.of(Step.Name.UNTIE, handle, 0));
            probe.add(Step.of(Step.Name.UNROOT, handle));
            probe.add(Step.of(Step.Name.SUM));
        }
        probe.add(Step.of(Step.Name.SWEEP));
        probeLooks(probe);
    }

    private static void probeLooks(List<Step> probe) {
        Step.Name[] asked = {Step.Name.HELD, Step.Name.FRAMES, Step.Name.FREE, Step.Name.SUM, Step.Name.SUM_BY_REPLAY,
            Step.Name.HEARD};
        for (Step.Name name : asked) {
            probe.add(Step.of(name));
        }
        for (int slot = 0; slot < 12; slot++) {
            probe.add(Step.of(Step.Name.AGE, slot));
        }
    }

    // ---- several exceptions

    private static void throwsIn(Situation situation, long due, Step.Name call, int... args) {
        Step step = Step.of(call, args);
        checks.due(step + " with " + situation.name + " throws " + Step.told(due), true,
                step.on(situation.make()) == due);
    }

    private static void firstNamed() {
        firstNamedBySpawn();
        firstNamedByTie();
        // A lost one is no root either, though it was never one.
        Situation lostChild = new Situation("a lost child")
                .then(Step.Name.SPAWN, NONE, 0, 0, 0, 1).then(Step.Name.SPAWN, 100, 0, 0, 0, 1)
                .then(Step.Name.UNTIE, 100, 0);
        throwsIn(lostChild, Step.OUT, Step.Name.UNROOT, 101);
        throwsIn(twentyWaves(), Step.ARGUMENT, Step.Name.WAVE, 1, 0, 0, 0, 1);
        throwsIn(twentyWaves(), Step.ARGUMENT, Step.Name.WAVE, 501, 0, 0, 0, 1);
        throwsIn(twentyWaves(), Step.ARGUMENT, Step.Name.WAVE, 2, 10, 0, 0, 1);
        throwsIn(twentyWaves(), Step.ARGUMENT, Step.Name.WAVE, 2, 0, 2, 0, 1);
        throwsIn(twentyWaves(), Step.ARGUMENT, Step.Name.WAVE, 2, 0, 0, 2, 1);
        throwsIn(twentyWaves(), Step.ARGUMENT, Step.Name.WAVE, 2, 0, 0, 0, 10);
        throwsIn(fiveHundredFrames(), Step.ARGUMENT, Step.Name.FRAME, -1);
        throwsIn(fiveHundredFrames(), Step.ARGUMENT, Step.Name.FRAME, 51);
        throwsIn(thirtySounds(), Step.OUT, Step.Name.SOUND, 102);
        throwsIn(thirtySounds(), Step.OUT, Step.Name.SOUND, NONE);
    }

    private static void firstNamedBySpawn() {
        Situation[] full = {eightInFullSlots(), fortyHaveCome()};
        for (Situation situation : full) {
            throwsIn(situation, Step.OUT, Step.Name.SPAWN, 101, 0, 0, 0, 1);
            throwsIn(situation, Step.OUT, Step.Name.SPAWN, 101, 10, 2, 2, 10);
            throwsIn(situation, Step.ARGUMENT, Step.Name.SPAWN, NONE, 10, 0, 0, 1);
            throwsIn(situation, Step.ARGUMENT, Step.Name.SPAWN, NONE, 0, 2, 0, 1);
            throwsIn(situation, Step.ARGUMENT, Step.Name.SPAWN, NONE, 0, 0, 2, 1);
            throwsIn(situation, Step.ARGUMENT, Step.Name.SPAWN, NONE, 0, 0, 0, 10);
        }
        throwsIn(empty(), Step.OUT, Step.Name.SPAWN, 100, -1, 0, 0, 1);
        throwsIn(empty(), Step.OUT, Step.Name.SPAWN, 100, 0, 0, 0, 0);
        throwsIn(fullSlotsAndThreeLinks(), Step.ARGUMENT, Step.Name.SPAWN, 100, 10, 0, 0, 1);
        throwsIn(fullSlotsAndThreeLinks(), Step.ARGUMENT, Step.Name.SPAWN, 100, 0, -2, 0, 1);
        throwsIn(fullSlotsAndThreeLinks(), Step.ARGUMENT, Step.Name.SPAWN, 100, 0, 0, -1, 1);
        throwsIn(fullSlotsAndThreeLinks(), Step.ARGUMENT, Step.Name.SPAWN, 100, 0, 0, 0, 0);
    }

    private static void firstNamedByTie() {
        Situation three = fullSlotsAndThreeLinks();
        throwsIn(three, Step.OUT, Step.Name.TIE, 104, 104, KEPT);
        throwsIn(three, Step.OUT, Step.Name.TIE, 101, 101, 3);
        throwsIn(three, Step.OUT, Step.Name.TIE, 101, 101, -1);
        throwsIn(three, Step.OUT, Step.Name.TIE, 100, 104, KEPT);
        throwsIn(three, Step.OUT, Step.Name.TIE, 100, 101, 3);
        throwsIn(three, Step.OUT, Step.Name.TIE, 100, 100, 3);
        throwsIn(three, Step.ARGUMENT, Step.Name.TIE, 100, 100, KEPT);
        throwsIn(three, Step.STATE, Step.Name.TIE, 100, 101, KEPT);
    }
}
