/** Promises 13 to 20: waves, frames, the sweep and the sums. */
public final class FramesTest {
    private static final int NONE = Spritehall.NONE;
    private static final Checks checks = new Checks();

    public static void main(String[] args) {
        waveCounts();
        waveThrows();
        wavesComeInOrder();
        wavesWithoutRoom();
        wavesSweepFullSlots();
        frameThrows();
        waysTurn();
        hits();
        hitsComeBehindMoves();
        hitsAreAllAtOnce();
        frames();
        sweepInSteps();
        sweepLeavesWhatCameLate();
        sweepLooksByItsMarking();
        sweepWithMuchBudget();
        sweepAtOnce();
        sweepAtOnceForASlot();
        free();
        age();
        sums();
        sumsByReplay();
        sumsHangOnNoSweep();
        checks.end();
    }

    private static int root(Spritehall hall, int cell, int side, int lives) {
        return hall.spawn(NONE, cell, 0, side, lives);
    }

    /** Fills the slots from 0 on with actors that are not held. */
    private static void fillWithLost(Spritehall hall, int slots) {
        for (int i = 0; i < slots; i++) {
            hall.unroot(root(hall, 0, 0, 1));
        }
    }

    private static void waveCounts() {
        Spritehall hall = new Spritehall();
        for (int i = 1; i <= 20; i++) {
            checks.due("wave " + i, i, hall.wave(i, 0, 0, 0, 1));
        }
        checks.dueThrow("wave 21", Checks.STATE, hall, () -> hall.wave(30, 0, 0, 0, 1));
        hall.frame(0);
        hall.frame(0);
        checks.due("a wave has come", 1, hall.held());
        checks.dueThrow("wave 21 though one has come", Checks.STATE, hall, () -> hall.wave(30, 0, 0, 0, 1));
        checks.dueThrow("wave 21, lives 0", Checks.ARGUMENT, hall, () -> hall.wave(30, 0, 0, 0, 0));
        checks.dueThrow("wave 21, frame 1", Checks.ARGUMENT, hall, () -> hall.wave(1, 0, 0, 0, 1));
    }

    private static void waveThrows() {
        int min = Integer.MIN_VALUE;
        int max = Integer.MAX_VALUE;
        int[][] wrong = {
            {1, 0, 0, 0, 1}, {0, 0, 0, 0, 1}, {501, 0, 0, 0, 1}, {-1, 0, 0, 0, 1}, {min, 0, 0, 0, 1}, {max, 0, 0, 0, 1},
            {2, -1, 0, 0, 1}, {2, 10, 0, 0, 1}, {2, min, 0, 0, 1}, {2, max, 0, 0, 1},
            {2, 0, -2, 0, 1}, {2, 0, 2, 0, 1}, {2, 0, min, 0, 1}, {2, 0, max, 0, 1},
            {2, 0, 0, -1, 1}, {2, 0, 0, 2, 1}, {2, 0, 0, min, 1}, {2, 0, 0, max, 1},
            {2, 0, 0, 0, 0}, {2, 0, 0, 0, 10}, {2, 0, 0, 0, min}, {2, 0, 0, 0, max},
        };
        for (int[] w : wrong) {
            Spritehall hall = new Spritehall();
            hall.frame(0);
            hall.frame(0);
            String call = "wave(" + w[0] + ", " + w[1] + ", " + w[2] + ", " + w[3] + ", " + w[4] + ")";
            checks.dueThrow(call, Checks.ARGUMENT, hall, () -> hall.wave(w[0], w[1], w[2], w[3], w[4]));
            checks.due("the first wave behind " + call, 1, hall.wave(2, 0, 0, 0, 1));
            hall.frame(0);
            checks.due("one comes behind " + call, 1, hall.held());
        }
        Spritehall hall = new Spritehall();
        checks.due("the edges of a wave", 1, hall.wave(0, 9, -1, 1, 9));
        checks.due("the last frame of a wave", 2, hall.wave(500, 0, 1, 0, 1));
        hall.frame(0);
        checks.due("cell 8 and way -1, lives 9", 8 + 90, hall.sum());
        for (int i = 1; i < 500; i++) {
            hall.frame(0);
        }
        checks.due("the frame 500 never runs", 1, hall.held());
        checks.due("a wave for it can be told", 3, hall.wave(500, 0, 0, 0, 1));
    }

    private static void wavesComeInOrder() {
        Spritehall hall = new Spritehall();
        hall.wave(1, 3, 0, 0, 1);
        hall.wave(0, 4, 0, 0, 2);
        hall.wave(1, 5, 0, 0, 3);
        checks.due("nothing comes as it is told", 0, hall.held());
        checks.due("the frame 0", 11, hall.frame(0));
        checks.due("one of the frame 0", 1, hall.held());
        checks.due("its cell", 4, hall.cell(100));
        int own = root(hall, 9, 0, 1);
        hall.frame(0);
        checks.due("the first told of the frame 1", 3, hall.cell(102));
        checks.due("the second told", 5, hall.cell(103));
        checks.due("its number", 3, hall.number(103));
        checks.due("the first's number", 2, hall.number(102));
        checks.due("a spawned one between", 1, hall.number(own));
        checks.due("they come as roots", 3, hall.unroot(103));
        checks.due("the frame 2", 8, hall.frame(0));
        checks.due("no more come", 3, hall.held());
    }

    private static void wavesWithoutRoom() {
        Spritehall hall = new Spritehall();
        for (int i = 0; i < 7; i++) {
            root(hall, i, 0, 1);
        }
        hall.wave(0, 8, 0, 0, 1);
        hall.wave(0, 9, 0, 0, 1);
        checks.due("one of two comes", 4, hall.frame(0));
        checks.due("8 are held", 8, hall.held());
        checks.due("the first of them", 8, hall.cell(107));
        hall.unroot(100);
        hall.frame(0);
        checks.due("the other never comes", 7, hall.held());

        Spritehall many = new Spritehall();
        fillWithLost(many, 39);
        many.wave(0, 1, 0, 0, 1);
        many.wave(0, 2, 0, 0, 1);
        many.frame(0);
        checks.due("40 have come", 1, many.held());
        checks.due("the 40th", 39, many.number(100 * many.age(3) + 3));
    }

    private static void wavesSweepFullSlots() {
        Spritehall hall = new Spritehall();
        int stays = root(hall, 0, 0, 1);
        fillWithLost(hall, 10);
        hall.wave(0, 1, 0, 0, 1);
        hall.wave(0, 2, 0, 0, 1);
        // The first wave fills the slot 11; the second one finds none, and all is swept.
        checks.due("free behind the frame", 9, hall.frame(0));
        checks.due("the first of them", 1, hall.cell(111));
        checks.due("the second of them", 2, hall.cell(201));
        checks.due("the root stays", true, hall.isHeld(stays));
    }

    private static void frameThrows() {
        Spritehall hall = new Spritehall();
        for (int budget : new int[] {-1, 51, Integer.MIN_VALUE, Integer.MAX_VALUE}) {
            checks.dueThrow("frame(" + budget + ")", Checks.ARGUMENT, hall, () -> hall.frame(budget));
        }
        checks.due("the most", 12, hall.frame(50));
        checks.due("the least", 12, hall.frame(0));
        checks.due("two have run", 2, hall.frames());
        // So many frames leave no calls for a look at all of the hall.
        Spritehall done = new Spritehall();
        for (int i = 0; i < 500; i++) {
            done.frame(i % 51);
        }
        checks.due("frames", 500, done.frames());
        checks.due("500 have run", true, Checks.thrownBy(() -> done.frame(50)) == Checks.STATE);
        checks.due("500 have run, budget 51", true, Checks.thrownBy(() -> done.frame(51)) == Checks.ARGUMENT);
        checks.due("none more has run", 500, done.frames());
    }

    private static void waysTurn() {
        Spritehall hall = new Spritehall();
        int left = hall.spawn(NONE, 1, -1, 0, 1);
        int right = hall.spawn(NONE, 8, 1, 0, 1);
        int still = hall.spawn(NONE, 0, 0, 0, 1);
        int[] lefts = {0, 0, 1, 2, 3, 4, 5, 6, 7, 8, 9, 9, 8};
        for (int i = 0; i < lefts.length; i++) {
            hall.frame(0);
            checks.due("left, frame " + i, lefts[i], hall.cell(left));
            checks.due("right, frame " + i, 9 - lefts[i], hall.cell(right));
            checks.due("still, frame " + i, 0, hall.cell(still));
            int leftWay = i < 1 ? 0 : i < 11 ? 2 : 0;
            int sum = lefts[i] + 10 + 100 * leftWay + 2 * (9 - lefts[i] + 10 + 100 * (2 - leftWay)) + 3 * (10 + 100);
            checks.due("sum, frame " + i, sum, hall.sum());
        }
    }

    private static void hits() {
        Spritehall hall = new Spritehall();
        int a = root(hall, 4, 0, 3);
        int b = root(hall, 4, 0, 2);
        int c = root(hall, 4, 1, 2);
        int apart = root(hall, 5, 1, 1);
        int alike = root(hall, 5, 1, 1);
        int first = root(hall, 0, 1, 9);
        int second = root(hall, 0, 0, 9);
        hall.frame(0);
        checks.due("a", 2, hall.lives(a));
        checks.due("b", 1, hall.lives(b));
        checks.due("c loses one, not one of each", 1, hall.lives(c));
        checks.due("alone of its side", 1, hall.lives(apart));
        checks.due("two of one side", 1, hall.lives(alike));
        checks.due("the cell 0", 8, hall.lives(first));
        checks.due("the cell 0, the other", 8, hall.lives(second));
        hall.frame(0);
        checks.due("a again", 1, hall.lives(a));
        checks.due("b has fallen", false, hall.isHeld(b));
        checks.due("c has fallen", false, hall.isHeld(c));
        hall.frame(0);
        checks.due("nobody is left for a", 1, hall.lives(a));

        Spritehall last = new Spritehall();
        int x = root(last, 9, 0, 2);
        int y = root(last, 9, 1, 2);
        int lost = root(last, 3, 0, 1);
        int lone = root(last, 3, 1, 1);
        last.unroot(lost);
        last.frame(0);
        checks.due("the cell 9", 1, last.lives(x));
        checks.due("the cell 9, the other", 1, last.lives(y));
        checks.due("one that is not held hits none", 1, last.lives(lone));
    }

    private static void hitsComeBehindMoves() {
        Spritehall hall = new Spritehall();
        int a = hall.spawn(NONE, 2, 1, 0, 2);
        int b = hall.spawn(NONE, 4, -1, 1, 2);
        hall.frame(0);
        checks.due("they meet in 3", 1, hall.lives(a));
        checks.due("b in 3", 1, hall.lives(b));
        hall.frame(0);
        checks.due("they have passed", 1, hall.lives(a));
        Spritehall cross = new Spritehall();
        int c = cross.spawn(NONE, 2, 1, 0, 2);
        cross.spawn(NONE, 3, -1, 1, 2);
        cross.frame(0);
        checks.due("they only change places", 2, cross.lives(c));
        // A wave that comes in this frame moves and hits in it.
        Spritehall hall2 = new Spritehall();
        int d = root(hall2, 6, 0, 2);
        hall2.wave(0, 5, 1, 1, 3);
        hall2.frame(0);
        checks.due("hit by a wave", 1, hall2.lives(d));
        checks.due("the wave is hit", 2, hall2.lives(101));
    }

    private static void hitsAreAllAtOnce() {
        // The fallen one held another one, which hits still in this frame.
        Spritehall hall = new Spritehall();
        int a = root(hall, 1, 0, 1);
        int b = root(hall, 1, 1, 2);
        int kept = hall.spawn(a, 7, 0, 0, 5);
        int foe = root(hall, 7, 1, 2);
        hall.frame(0);
        checks.due("a has fallen", false, hall.isHeld(a));
        checks.due("what it held", false, hall.isHeld(kept));
        checks.due("b", 1, hall.lives(b));
        checks.due("all at once", 1, hall.lives(foe));
    }

    private static void frames() {
        Spritehall hall = new Spritehall();
        for (int i = 0; i < 20; i++) {
            checks.due("frames ahead of " + i, i, hall.frames());
            hall.frame(i);
        }
        hall.sweep();
        checks.due("a sweep is no frame", 20, hall.frames());
        checks.dueThrow("a frame that throws", Checks.ARGUMENT, hall, () -> hall.frame(51));
        checks.due("frames behind", 20, hall.frames());
    }

    private static void sweepInSteps() {
        Spritehall hall = new Spritehall();
        fillWithLost(hall, 12);
        checks.due("nothing is free", 0, hall.free());
        checks.due("3 is too little to mark", 0, hall.frame(3));
        checks.due("what is left is lost", 0, hall.frame(3));
        checks.due("marking alone", 0, hall.frame(4));
        checks.due("the slot 0", 1, hall.frame(1));
        checks.due("nothing for nothing", 1, hall.frame(0));
        checks.due("the slots 1 and 2", 3, hall.frame(2));
        checks.due("the slots 3 to 10, then 11", 12, hall.frame(9));
        hall.unroot(root(hall, 0, 0, 1));
        checks.due("marking is next, and waits", 11, hall.frame(3));
        checks.due("marking and a slot", 12, hall.frame(5));
    }

    private static void sweepLeavesWhatCameLate() {
        Spritehall hall = new Spritehall();
        int a = root(hall, 0, 0, 1);
        int b = root(hall, 0, 0, 1);
        hall.frame(4);
        hall.unroot(a);
        int late = root(hall, 0, 0, 1);
        hall.unroot(late);
        checks.due("one held at the marking, one that came late", 9, hall.frame(12));
        checks.due("the next round has not marked", 9, hall.frame(0));
        checks.due("the next round", 11, hall.frame(16));
        checks.due("b stays", true, hall.isHeld(b));
    }

    private static void sweepLooksByItsMarking() {
        // A late one in a slot that the round has made free is not taken for the old one.
        Spritehall hall = new Spritehall();
        fillWithLost(hall, 2);
        checks.due("marked, the slot 0 looked at", 11, hall.frame(5));
        int late = root(hall, 0, 0, 1);
        checks.due("in the slot 0", 200, late);
        hall.unroot(late);
        checks.due("the rest of the round", 11, hall.frame(11));
        checks.due("the late one in the next", 12, hall.frame(5));

        // A slot behind the place of the round, freed by hand and filled again.
        Spritehall other = new Spritehall();
        fillWithLost(other, 3);
        other.frame(4);
        other.sweep();
        other.unroot(root(other, 0, 0, 1));
        checks.due("marking again behind a sweep at once", 11, other.frame(3));
        checks.due("then its slot", 12, other.frame(5));
    }

    private static void sweepWithMuchBudget() {
        Spritehall hall = new Spritehall();
        fillWithLost(hall, 12);
        checks.due("15 reaches the slot 10", 11, hall.frame(15));
        checks.due("then the slot 11 and a marking", 12, hall.frame(5));
        hall.unroot(root(hall, 0, 0, 1));
        // 50 pays for the 12 slots, two rounds and a marking: only a marking sees this one.
        checks.due("more than one round", 12, hall.frame(50));
        fillWithLost(hall, 6);
        checks.due("behind that: 12 - 12 - 16 - 16 leaves the slots from 2 on", 6, hall.frame(10));
    }

    private static void sweepAtOnce() {
        Spritehall hall = new Spritehall();
        int a = root(hall, 0, 0, 1);
        fillWithLost(hall, 5);
        int b = hall.spawn(a, 0, 0, 0, 1);
        checks.due("five", 5, hall.sweep());
        checks.due("no more", 0, hall.sweep());
        checks.due("free", 10, hall.free());
        checks.due("a", true, hall.isHeld(a));
        checks.due("b", true, hall.isHeld(b));
        checks.due("b keeps its slot", 106, b);
        hall.unroot(a);
        checks.due("both", 2, hall.sweep());
        checks.due("all", 12, hall.free());
        checks.due("ages stay", 1, hall.age(5));
    }

    private static void sweepAtOnceForASlot() {
        // A spawn without a free slot sweeps, and the sweep begins with marking again.
        Spritehall hall = new Spritehall();
        fillWithLost(hall, 11);
        checks.due("marked", 1, hall.frame(4));
        hall.unroot(root(hall, 0, 0, 1));
        int next = root(hall, 0, 0, 1);
        checks.due("swept for it", 200, next);
        checks.due("all but it", 11, hall.free());
        hall.unroot(next);
        checks.due("3 is too little to mark", 11, hall.frame(3));
        checks.due("marking again", 11, hall.frame(4));
        checks.due("the slot 0", 12, hall.frame(1));
    }

    private static void free() {
        Spritehall hall = new Spritehall();
        checks.due("all", 12, hall.free());
        fillWithLost(hall, 12);
        checks.due("none", 0, hall.free());
        root(hall, 0, 0, 1);
        checks.due("swept for the 13th", 11, hall.free());
    }

    private static void age() {
        Spritehall hall = new Spritehall();
        for (int i = 1; i <= 40; i++) {
            int handle = root(hall, 0, 0, 1);
            checks.due("handle " + i, 100 * i, handle);
            checks.due("age " + i, i, hall.age(0));
            if (i < 40) {
                hall.unroot(handle);
                hall.sweep();
            }
        }
        checks.due("held at the age of 40", true, hall.isHeld(4000));
        for (int slot = 1; slot < 12; slot++) {
            checks.due("age of the slot " + slot, 0, hall.age(slot));
        }
        for (int slot : new int[] {-1, 12, 100, Integer.MIN_VALUE, Integer.MAX_VALUE}) {
            checks.dueThrow("age(" + slot + ")", Checks.OUT, hall, () -> hall.age(slot));
        }
    }

    private static void sums() {
        Spritehall hall = new Spritehall();
        int a = hall.spawn(NONE, 7, -1, 0, 4);
        checks.due("one", 47, hall.sum());
        hall.spawn(NONE, 3, 1, 0, 9);
        checks.due("two", 47 + 2 * 293, hall.sum());
        hall.spawn(NONE, 5, 0, 0, 1);
        checks.due("three", 47 + 2 * 293 + 3 * 115, hall.sum());
        hall.unroot(a);
        checks.due("without one", 2 * 293 + 3 * 115, hall.sum());
        hall.frame(0);
        checks.due("moved", 2 * 294 + 3 * 115, hall.sum());
    }

    private static void sumsByReplay() {
        Spritehall hall = new Spritehall();
        int a = hall.spawn(NONE, 0, 1, 0, 3);
        hall.spawn(a, 4, -1, 1, 2);
        hall.wave(3, 2, 0, 0, 9);
        int[] sums = {231 + 2 * 23, 222 + 2 * 12, 223 + 2 * 11, 224 + 2 * 10 + 3 * 192,
            225 + 2 * 210 + 3 * 192, 226 + 2 * 211 + 3 * 192};
        for (int i = 0; i < sums.length; i++) {
            hall.frame(i);
            checks.due("behind the frame " + i, sums[i], hall.sumByReplay());
            checks.due("the same by sum", sums[i], hall.sum());
        }
        hall.unroot(a);
        checks.due("told behind the last frame", 3 * 192, hall.sumByReplay());
        checks.due("it runs nothing here", 6, hall.frames());
    }

    /** A late sweep leaves handles that another hall would not give: the sums are the same. */
    private static void sumsHangOnNoSweep() {
        Spritehall never = new Spritehall();
        Spritehall always = new Spritehall();
        for (int i = 0; i < 39; i++) {
            int late = never.spawn(NONE, i % 10, i % 3 - 1, i % 2, 1 + i % 9);
            int early = always.spawn(NONE, i % 10, i % 3 - 1, i % 2, 1 + i % 9);
            if (i % 3 > 0 || i > 18) {
                never.unroot(late);
                always.unroot(early);
            }
            never.frame(0);
            always.frame(50);
            always.sweep();
            checks.due("swept always, " + i, always.sum(), never.sum());
            checks.due("replayed, " + i, always.sum(), never.sumByReplay());
            checks.due("replayed, swept always, " + i, always.sum(), always.sumByReplay());
        }
    }
}
