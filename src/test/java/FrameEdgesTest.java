/** The edges that 'Terms' names for frames and the sweep, and those of the promises 13 to 20: a test for each sentence. */
public final class FrameEdgesTest {
    private static final int NONE = Spritehall.NONE;
    private static final int MIN = Integer.MIN_VALUE, MAX = Integer.MAX_VALUE;
    private static final Checks checks = new Checks();

    public static void main(String[] args) {
        waves();
        movesAndHits();
        sweeps();
        promisesOfFrames();
        promisesOfTheSweep();
        checks.end();
    }

    private static void waves() {
        checks.sentence("A frame, numbered from 0", FrameEdgesTest::framesFromZero);
        checks.sentence("For each wave that is told for this frame, in the order of telling, an actor comes",
                FrameEdgesTest::wavesByTelling);
        checks.sentence("as a root", FrameEdgesTest::wavesAsRoots);
        checks.sentence("if less than 8 are held", FrameEdgesTest::wavesBelowEight);
        checks.sentence("and less than 40 have come", FrameEdgesTest::wavesBelowForty);
        checks.sentence("otherwise nothing does", FrameEdgesTest::wavesThatBringNobody);
        checks.sentence("if none is, all is swept at once ahead of that", FrameEdgesTest::wavesInFullSlots);
        checks.sentence("Promise 13: frame: frames() to 500", FrameEdgesTest::framesOfWaves);
        checks.sentence("Promise 13: cell: 0 to 9", () -> waveRange(0, 9, 1));
        checks.sentence("Promise 13: way: -1 to 1", () -> waveRange(-1, 1, 2));
        checks.sentence("Promise 13: side: 0 or 1", () -> waveRange(0, 1, 3));
        checks.sentence("Promise 13: lives: 1 to 9", () -> waveRange(1, 9, 4));
        checks.sentence("Promise 13: an actor that comes in a frame", FrameEdgesTest::wavesKeepWhatIsGiven);
        checks.sentence("Promise 13: Returns how many waves were told.", FrameEdgesTest::wavesAreCounted);
        checks.sentence("Promise 13: Throws IllegalArgumentException if frame .. is out of range",
                FrameEdgesTest::waveOutOfFrames);
        checks.sentence("Promise 13: Throws IllegalArgumentException if frame, cell, way, side or lives is out of range",
                FrameEdgesTest::waveWithSeveralWrong);
        checks.sentence("Promise 13: Throws IllegalStateException if 20 were told", FrameEdgesTest::twentyWaves);
    }

    private static void movesAndHits() {
        checks.sentence("if the next cell on its way is none, its way is turned round, and it stays",
                FrameEdgesTest::turnsAtTheEnds);
        checks.sentence("otherwise it goes there", FrameEdgesTest::goesOnItsWay);
        checks.sentence("Each held actor", FrameEdgesTest::onlyTheHeldMove);
        checks.sentence("In each cell in which there are held actors of both sides", FrameEdgesTest::bothSidesInACell);
        checks.sentence("3. In each cell .., behind 2. .. otherwise it goes there", FrameEdgesTest::hitsBehindMoves);
        checks.sentence("each of these has one life less", FrameEdgesTest::oneLifeLess);
        checks.sentence("all at once", FrameEdgesTest::allAtOnce);
    }

    private static void sweeps() {
        checks.sentence("The sweep goes on with the budget of the frame.", FrameEdgesTest::sweepBehindHits);
        checks.sentence("It begins with marking. Marking costs 4 of the budget", FrameEdgesTest::markingCostsFour);
        checks.sentence("and notes which actors are held then", FrameEdgesTest::markingNotesTheHeld);
        checks.sentence("then the slots are looked at, from 0 to 11, each of which costs 1",
                FrameEdgesTest::eachSlotCostsOne);
        checks.sentence("it is free then if the actor in it came ahead of the last marking",
                FrameEdgesTest::lateOnesStay);
        checks.sentence("and was not held at that", FrameEdgesTest::heldAtMarkingStay);
        checks.sentence("Behind the slot 11 the next is marking again.", FrameEdgesTest::markingBehindTheLast);
        checks.sentence("Whatever costs more than is left of the budget waits for the next frame; what is left is lost.",
                FrameEdgesTest::leftOverIsLost);
        checks.sentence("When all is swept at once, each slot is free whose actor is not held",
                FrameEdgesTest::sweptAtOnce);
        checks.sentence("and the sweep begins with marking again", FrameEdgesTest::markingBehindASweepOfAll);
    }

    private static void promisesOfFrames() {
        checks.sentence("Promise 14: budget: 0 to 50", FrameEdgesTest::eachBudget);
        checks.sentence("Promise 14: Returns how many slots are free then.", FrameEdgesTest::frameTellsFree);
        checks.sentence("Promise 14: Throws IllegalArgumentException if budget is out of range",
                FrameEdgesTest::budgetOutOfRange);
        checks.sentence("Promise 14: Throws IllegalStateException if 500 frames have run",
                FrameEdgesTest::fiveHundredFrames);
        checks.sentence("Promise 15: Returns how many frames have run.", FrameEdgesTest::framesThatHaveRun);
    }

    private static void promisesOfTheSweep() {
        checks.sentence("Promise 16: Returns how many slots are free by that that were not.",
                FrameEdgesTest::sweepTellsTheNew);
        checks.sentence("Promise 17: Returns how many slots are free.", FrameEdgesTest::freeFromTwelveToNone);
        checks.sentence("Promise 18: slot: 0 to 11", FrameEdgesTest::slotsAtTheEdge);
        checks.sentence("Promise 18: how many actors have come into it", FrameEdgesTest::agesCount);
        checks.sentence("Promise 18: Throws IndexOutOfBoundsException if there is no such slot",
                FrameEdgesTest::noSuchSlot);
        checks.sentence("Promise 19: Returns the sum, over all held actors", FrameEdgesTest::sumsOfTheHeld);
        checks.sentence("Promise 19: (number + 1) * (cell + 10 * lives + 100 * (way + 1))", FrameEdgesTest::partsOfTheSum);
        checks.sentence("Promise 20: Returns the same, of a hall in which all was told and run once more",
                FrameEdgesTest::replayedAtTheEdge);
        checks.sentence("Promise 20: and all was swept at once behind each frame", FrameEdgesTest::replayedThoughNotSwept);
        checks.sentence("Promise 20: asking changes nothing here", FrameEdgesTest::replayLeavesTheHall);
    }

    // ---- waves

    private static void framesFromZero() {
        Spritehall hall = new Spritehall();
        hall.wave(0, 1, 0, 0, 1);
        hall.wave(1, 2, 0, 0, 1);
        checks.due("nobody comes ahead of the first frame", 0, hall.held());
        hall.frame(0);
        checks.due("the first frame is 0", 1, hall.held());
        checks.due("its wave", 1, hall.cell(100));
        hall.frame(0);
        checks.due("the second frame is 1", 2, hall.cell(101));
    }

    private static void wavesByTelling() {
        Spritehall hall = new Spritehall();
        int[] cells = {7, 3, 9, 1};
        for (int cell : cells) {
            hall.wave(2, cell, 0, 0, 1);
            hall.wave(3, 0, 0, 0, 1);
        }
        Halls.run(hall, 2);
        checks.due("ahead of their frame", 0, hall.held());
        hall.frame(0);
        for (int i = 0; i < cells.length; i++) {
            checks.due("the cell of the wave " + i, cells[i], hall.cell(100 + i));
            checks.due("the number of the wave " + i, i, hall.number(100 + i));
        }
        checks.due("four of this frame", 4, hall.held());
        hall.frame(0);
        checks.due("four of the next one", 8, hall.held());
        for (int i = 0; i < 8; i++) {
            hall.unroot(100 + i);
        }
        hall.frame(0);
        checks.due("none of them comes twice", 0, hall.held());
    }

    private static void wavesAsRoots() {
        Spritehall hall = new Spritehall();
        hall.wave(0, 0, 0, 0, 1);
        hall.frame(0);
        checks.due("it is held without links", true, hall.isHeld(100));
        checks.dueThrow("it has no links", Checks.OUT, hall, () -> hall.linkAt(100, 0));
        checks.due("it can be unrooted", 0, hall.unroot(100));
    }

    private static void wavesBelowEight() {
        for (int held = 0; held <= 8; held++) {
            Spritehall hall = Halls.held(held);
            hall.wave(0, 0, 0, 0, 1);
            hall.frame(0);
            checks.due("one wave with " + held + " held", held < 8 ? held + 1 : 8, hall.held());
        }
        Spritehall all = new Spritehall();
        for (int i = 0; i < 9; i++) {
            all.wave(0, i, 0, 0, 1);
        }
        all.frame(0);
        checks.due("nine waves", 8, all.held());
        checks.due("the eighth has come", 7, all.cell(107));

        // Those that fall in a frame leave room for the waves of the next one alone.
        Spritehall falls = Halls.held(6);
        Halls.root(falls, 5, 0, 1);
        Halls.root(falls, 5, 1, 1);
        falls.wave(0, 0, 0, 0, 1);
        falls.wave(1, 0, 0, 0, 1);
        falls.frame(0);
        checks.due("two have fallen, and nobody came", 6, falls.held());
        falls.frame(0);
        checks.due("one has come", 7, falls.held());
    }

    private static void wavesBelowForty() {
        Spritehall hall = Halls.lost(38);
        for (int i = 0; i < 3; i++) {
            hall.wave(0, i, 0, 0, 1);
        }
        hall.frame(0);
        checks.due("two of three", 2, hall.held());
        checks.due("the 40th is the second", 1, hall.cell(100 * hall.age(3) + 3));
        checks.due("its number", 39, hall.number(100 * hall.age(3) + 3));
        Spritehall full = Halls.lost(40);
        full.wave(0, 0, 0, 0, 1);
        full.frame(0);
        checks.due("40 have come", 0, full.held());
    }

    private static void wavesThatBringNobody() {
        Spritehall hall = Halls.eightHeldInFullSlots();
        int sum = hall.sum();
        hall.wave(0, 5, 0, 1, 1);
        checks.due("nothing is swept for one that doesn't come", 0, hall.frame(0));
        checks.due("the sum stays", sum, hall.sum());
        for (int slot = 0; slot < 12; slot++) {
            checks.due("the age of the slot " + slot, 1, hall.age(slot));
        }
        hall.unroot(104);
        hall.frame(0);
        checks.due("it doesn't come later", 7, hall.held());
        checks.due("it took no number", 12, hall.number(Halls.root(hall)));

        Spritehall full = Halls.lost(40);
        int free = full.free();
        full.wave(0, 0, 0, 0, 1);
        checks.due("nothing is swept with 40", free, full.frame(0));
    }

    private static void wavesInFullSlots() {
        Spritehall hall = Halls.lost(11);
        hall.wave(0, 1, 0, 0, 1);
        hall.wave(0, 2, 0, 0, 1);
        checks.due("the first takes the last slot, and the second lets all be swept", 10, hall.frame(0));
        checks.due("the first", 1, hall.cell(111));
        checks.due("the second", 2, hall.cell(200));

        // The wave lets all be swept, so that the sweep of this very frame begins with marking: it
        // takes note of the root in the slot 0, which falls in this frame.
        for (int budget = 0; budget <= 6; budget++) {
            Spritehall marked = new Spritehall();
            Halls.root(marked, 9, 0, 1);
            Halls.addLost(marked, 11);
            marked.frame(4);
            marked.wave(1, 9, 0, 1, 2);
            checks.due("a wave's sweep, budget " + budget, budget < 5 ? 10 : 11, marked.frame(budget));
            checks.due("who came by the wave", 1, marked.lives(201));
        }
    }

    private static void framesOfWaves() {
        Spritehall hall = new Spritehall();
        checks.due("the frame 0 of a new hall", 1, hall.wave(0, 0, 0, 0, 1));
        hall.frame(0);
        checks.due("the wave for it has come", 1, hall.held());
        hall.wave(499, 0, 0, 0, 1);
        hall.wave(500, 0, 0, 0, 1);
        Halls.run(hall, 498);
        checks.due("ahead of the frame 499", 1, hall.held());
        checks.due("frames() is not too early", 4, hall.wave(499, 0, 0, 0, 1));
        hall.frame(0);
        checks.due("two come in the frame 499, the last that runs", 3, hall.held());
        checks.due("frames() is 500 now", 5, hall.wave(500, 0, 0, 0, 1));
        checks.due("the frame 499 is gone", true,
                Checks.thrownBy(() -> hall.wave(499, 0, 0, 0, 1)) == Checks.ARGUMENT);
        checks.due("the frame 501", true, Checks.thrownBy(() -> hall.wave(501, 0, 0, 0, 1)) == Checks.ARGUMENT);
        checks.due("nobody comes for the frame 500", 3, hall.held());
    }

    private static void waveOutOfFrames() {
        for (int run = 0; run < 4; run++) {
            for (int frame : new int[] {run - 1, -1, 501, 1000, MIN, MAX}) {
                Spritehall hall = new Spritehall();
                Halls.run(hall, run);
                checks.dueThrow("the frame " + frame + " behind " + run, Checks.ARGUMENT, hall,
                        () -> hall.wave(frame, 0, 0, 0, 1));
                checks.due("the first", 1, hall.wave(run, 0, 0, 0, 1));
                checks.due("the second", 2, hall.wave(500, 0, 0, 0, 1));
            }
        }
    }

    private static int waveWith(Spritehall hall, int which, int value) {
        int[] given = {0, 5, 0, 0, 5};
        given[which] = value;
        return hall.wave(given[0], given[1], given[2], given[3], given[4]);
    }

    private static void waveRange(int least, int most, int which) {
        for (int value : new int[] {least - 1, most + 1, least - 100, most + 100, MIN, MAX}) {
            Spritehall hall = new Spritehall();
            checks.dueThrow("wave with " + value, Checks.ARGUMENT, hall, () -> waveWith(hall, which, value));
            hall.frame(0);
            checks.due("nobody comes by it", 0, hall.held());
        }
        for (int value = least; value <= most; value++) {
            Spritehall hall = new Spritehall();
            checks.due("wave with " + value, 1, waveWith(hall, which, value));
            hall.frame(0);
            checks.due("one comes by it", 1, hall.held());
        }
    }

    private static void wavesKeepWhatIsGiven() {
        for (int cell = 0; cell <= 9; cell++) {
            for (int way = -1; way <= 1; way++) {
                for (int lives = 1; lives <= 9; lives++) {
                    Spritehall hall = new Spritehall();
                    hall.wave(0, cell, way, 0, lives);
                    hall.frame(0);
                    // It goes in the frame in which it comes.
                    boolean turns = cell + way < 0 || cell + way > 9;
                    checks.due("cell", turns ? cell : cell + way, hall.cell(100));
                    checks.due("lives", lives, hall.lives(100));
                    checks.due("way, by the sum", hall.cell(100) + 10 * lives + 100 * ((turns ? -way : way) + 1),
                            hall.sum());
                }
            }
        }
        for (int pair = 0; pair < 4; pair++) {
            Spritehall hall = new Spritehall();
            hall.wave(0, 0, 0, pair / 2, 9);
            hall.wave(0, 0, 0, pair % 2, 9);
            hall.frame(0);
            checks.due("sides " + pair / 2 + " and " + pair % 2, pair / 2 == pair % 2 ? 9 : 8, hall.lives(100));
        }
        Spritehall hit = new Spritehall();
        Halls.root(hit, 4, 0, 9);
        hit.wave(0, 5, -1, 1, 1);
        hit.frame(0);
        checks.due("one that falls in the frame in which it comes", 1, hit.held());
        checks.due("it has hit", 8, hit.lives(100));
    }

    private static void wavesAreCounted() {
        Spritehall hall = new Spritehall();
        for (int i = 1; i <= 20; i++) {
            checks.due("wave " + i, i, hall.wave(hall.frames(), 0, 0, 0, 1));
            hall.frame(0);
        }
        checks.due("8 of them have come", 8, hall.held());
        Spritehall other = new Spritehall();
        checks.due("of another hall", 1, other.wave(0, 0, 0, 0, 1));
        checks.due("one that throws", true, Checks.thrownBy(() -> other.wave(0, 0, 0, 0, 0)) == Checks.ARGUMENT);
        checks.due("it isn't counted", 2, other.wave(0, 0, 0, 0, 1));
    }

    private static void waveWithSeveralWrong() {
        for (int wrong = 1; wrong < 32; wrong++) {
            int frame = (wrong & 1) == 0 ? 500 : 501;
            int cell = (wrong & 2) == 0 ? 0 : -1;
            int way = (wrong & 4) == 0 ? 1 : 2;
            int side = (wrong & 8) == 0 ? 0 : -1;
            int lives = (wrong & 16) == 0 ? 9 : 10;
            String told = "wave(" + frame + ", " + cell + ", " + way + ", " + side + ", " + lives + ")";
            checks.dueThrow(told, Checks.ARGUMENT, Spritehall::new, h -> h.wave(frame, cell, way, side, lives));
        }
    }

    private static void twentyWaves() {
        Spritehall hall = new Spritehall();
        for (int i = 0; i < 20; i++) {
            hall.wave(i / 10, 0, 0, 0, 1);
        }
        checks.dueThrow("a 21st", Checks.STATE, hall, () -> hall.wave(2, 0, 0, 0, 1));
        Halls.run(hall, 2);
        checks.dueThrow("a 21st though all are over", Checks.STATE, hall, () -> hall.wave(2, 0, 0, 0, 1));
        hall.frame(0);
        checks.due("nobody came by it", 8, hall.held());
    }

    // ---- moves and hits

    private static void turnsAtTheEnds() {
        Spritehall hall = new Spritehall();
        hall.spawn(NONE, 0, -1, 0, 1);
        hall.spawn(NONE, 9, 1, 0, 1);
        checks.due("at the ends", 0 + 10 + 2 * (9 + 10 + 200), hall.sum());
        hall.frame(0);
        checks.due("they stay, turned round", 0 + 10 + 200 + 2 * (9 + 10), hall.sum());
        for (int cell = 1; cell <= 9; cell++) {
            hall.frame(0);
            checks.due("the first goes up", cell, hall.cell(100));
            checks.due("the second goes down", 9 - cell, hall.cell(101));
        }
        hall.frame(0);
        checks.due("the first stays at 9", 9, hall.cell(100));
        checks.due("the second stays at 0", 0, hall.cell(101));
        hall.frame(0);
        checks.due("the first comes back", 8, hall.cell(100));
        checks.due("the second comes back", 1, hall.cell(101));
    }

    private static void goesOnItsWay() {
        for (int cell = 0; cell <= 9; cell++) {
            for (int way = -1; way <= 1; way++) {
                if (cell + way >= 0 && cell + way <= 9) {
                    Spritehall hall = new Spritehall();
                    hall.spawn(NONE, cell, way, 0, 1);
                    hall.frame(0);
                    checks.due("from " + cell + " by " + way, cell + way, hall.cell(100));
                    checks.due("its way stays", cell + way + 10 + 100 * (way + 1), hall.sum());
                }
            }
        }
    }

    private static void onlyTheHeldMove() {
        // 101 is lost in the cell 4, on its way to 5, where it would hit.
        Spritehall hall = new Spritehall();
        Halls.root(hall, 5, 0, 9);
        hall.spawn(NONE, 4, 1, 1, 9);
        hall.unroot(101);
        hall.frame(0);
        checks.due("a lost one hits nobody", 9, hall.lives(100));
        Spritehall kept = Halls.held(1);
        kept.spawn(100, 4, 1, 1, 9);
        kept.frame(0);
        checks.due("one that is kept goes", 5, kept.cell(101));
    }

    private static void bothSidesInACell() {
        for (int cell = 0; cell <= 9; cell++) {
            Spritehall hall = new Spritehall();
            Halls.root(hall, cell, 0, 3);
            Halls.root(hall, cell, 1, 3);
            Halls.root(hall, (cell + 1) % 10, 0, 3);
            Halls.root(hall, (cell + 2) % 10, 1, 3);
            hall.frame(0);
            checks.due("both sides in " + cell, 2, hall.lives(100));
            checks.due("the other side in " + cell, 2, hall.lives(101));
            checks.due("alone beside " + cell, 3, hall.lives(102));
            checks.due("alone in another cell", 3, hall.lives(103));
        }
        for (int side = 0; side < 2; side++) {
            Spritehall same = new Spritehall();
            for (int i = 0; i < 8; i++) {
                Halls.root(same, 0, side, 1);
            }
            same.frame(0);
            checks.due("8 of the side " + side, 8, same.held());
        }
        Spritehall lost = new Spritehall();
        Halls.root(lost, 0, 0, 1);
        Halls.root(lost, 0, 1, 1);
        lost.unroot(101);
        lost.frame(0);
        checks.due("the other side is not held", 1, lost.lives(100));
    }

    private static void hitsBehindMoves() {
        Spritehall meet = new Spritehall();
        meet.spawn(NONE, 2, 1, 0, 5);
        meet.spawn(NONE, 4, -1, 1, 5);
        meet.frame(0);
        checks.due("they come into one cell", 4, meet.lives(100));
        meet.frame(0);
        checks.due("they have left it", 4, meet.lives(100));
        Spritehall part = new Spritehall();
        part.spawn(NONE, 3, 1, 0, 5);
        part.spawn(NONE, 3, -1, 1, 5);
        part.frame(0);
        checks.due("they leave a cell", 5, part.lives(100));
        Spritehall pass = new Spritehall();
        pass.spawn(NONE, 3, 1, 0, 5);
        pass.spawn(NONE, 4, -1, 1, 5);
        pass.frame(0);
        checks.due("they change places", 5, pass.lives(100));
        Spritehall end = new Spritehall();
        end.spawn(NONE, 9, 1, 0, 5);
        end.spawn(NONE, 8, 1, 1, 5);
        end.frame(0);
        checks.due("one turns and stays, and the other comes", 4, end.lives(100));
    }

    private static void oneLifeLess() {
        for (int others = 1; others <= 7; others++) {
            Spritehall hall = new Spritehall();
            Halls.root(hall, 3, 0, 9);
            for (int i = 0; i < others; i++) {
                Halls.root(hall, 3, 1, 9);
            }
            hall.frame(0);
            for (int i = 0; i <= others; i++) {
                checks.due("one against " + others + ", actor " + i, 8, hall.lives(100 + i));
            }
        }
        Spritehall last = new Spritehall();
        Halls.root(last, 3, 0, 1);
        Halls.root(last, 3, 1, 2);
        last.frame(0);
        checks.due("the last life", false, last.isHeld(100));
        checks.due("the last but one", 1, last.lives(101));
    }

    private static void allAtOnce() {
        // Whoever falls holds its own ones until all have hit: in cells above its own and below.
        for (int cell = 0; cell <= 9; cell++) {
            if (cell != 5) {
                Spritehall hall = new Spritehall();
                Halls.root(hall, 5, 0, 1);
                Halls.root(hall, 5, 1, 9);
                hall.spawn(100, cell, 0, 0, 9);
                Halls.root(hall, cell, 1, 9);
                hall.frame(0);
                checks.due("the child is let go", 2, hall.held());
                checks.due("it has hit in " + cell, 8, hall.lives(103));
            }
        }
        Spritehall pair = new Spritehall();
        Halls.root(pair, 0, 0, 1);
        Halls.root(pair, 0, 1, 1);
        pair.frame(0);
        checks.due("two with their last lives", 0, pair.held());
    }

    // ---- the sweep

    private static void sweepBehindHits() {
        Spritehall hall = new Spritehall();
        Halls.root(hall, 5, 0, 1);
        hall.spawn(NONE, 4, 1, 1, 2);
        checks.due("what falls in a frame is not held at its marking", 11, hall.frame(5));
        hall.wave(1, 5, 0, 0, 1);
        checks.due("what comes in a frame fills a slot in it", 10, hall.frame(0));
    }

    private static void markingCostsFour() {
        for (int budget = 0; budget <= 4; budget++) {
            Spritehall hall = Halls.lost(12);
            checks.due("a first frame of " + budget, 0, hall.frame(budget));
            checks.due("a slot behind it, if it has marked", budget < 4 ? 0 : 1, hall.frame(1));
        }
        checks.due("5 pays for a slot too", 1, Halls.lost(12).frame(5));
        Spritehall thrice = Halls.lost(12);
        thrice.frame(3);
        thrice.frame(3);
        checks.due("3 and 3 and 3 never mark", 0, thrice.frame(3));
        checks.due("still to be marked", 1, thrice.frame(5));
    }

    private static void markingNotesTheHeld() {
        Spritehall hall = Halls.held(3);
        hall.unroot(100);
        hall.frame(4);
        hall.unroot(101);
        checks.due("lost ahead of the marking, and lost behind it", 10, hall.frame(12));
        checks.due("the next marking notes it", 11, hall.frame(16));
        checks.due("the held one stays", true, hall.isHeld(102));
    }

    private static void eachSlotCostsOne() {
        Spritehall hall = Halls.lost(12);
        hall.frame(4);
        for (int slot = 0; slot < 12; slot++) {
            checks.due("the slot " + slot, slot + 1, hall.frame(1));
        }
        // Slots that are free, and those of held ones, cost as much.
        Spritehall mixed = Halls.lost(12);
        mixed.sweep();
        for (int i = 0; i < 6; i++) {
            Halls.root(mixed);
        }
        Halls.addLost(mixed, 1);
        mixed.frame(4);
        for (int slot = 0; slot < 6; slot++) {
            checks.due("the slot " + slot + " of a held one", 5, mixed.frame(1));
        }
        checks.due("the slot 6 of the lost one", 6, mixed.frame(1));
        for (int slot = 7; slot < 12; slot++) {
            checks.due("the free slot " + slot, 6, mixed.frame(1));
        }
        Spritehall above = Halls.held(6);
        for (int slot = 0; slot < 5; slot++) {
            above.unroot(100 + slot);
        }
        above.sweep();
        above.unroot(105);
        above.frame(4);
        for (int slot = 0; slot < 5; slot++) {
            checks.due("the free slot " + slot + " ahead of a lost one", 11, above.frame(1));
        }
        checks.due("the slot 5 of the lost one", 12, above.frame(1));
    }

    private static void lateOnesStay() {
        Spritehall hall = new Spritehall();
        hall.frame(4);
        Halls.addLost(hall, 12);
        checks.due("all came behind the marking", 0, hall.frame(12));
        checks.due("all came ahead of the next one", 12, hall.frame(16));

        // A late one in a slot from which this round has taken an early one.
        Spritehall again = Halls.lost(2);
        checks.due("the slot 0 is free", 11, again.frame(5));
        Halls.addLost(again, 1);
        checks.due("the slot 1 is free, and the late one stays", 11, again.frame(11));
        checks.due("the late one is marked now", 12, again.frame(5));

        Spritehall wave = Halls.lost(1);
        wave.wave(0, 0, 0, 0, 1);
        checks.due("one that comes by a wave came ahead of this frame's marking", 11, wave.frame(6));
    }

    private static void heldAtMarkingStay() {
        for (int slot = 0; slot < 8; slot++) {
            Spritehall hall = Halls.held(8);
            hall.frame(4);
            hall.unroot(100 + slot);
            checks.due("held at the marking, lost ahead of its slot " + slot, 4, hall.frame(12));
            checks.due("the next round", 5, hall.frame(16));
        }
        Spritehall kept = Halls.threeLinks();
        kept.frame(4);
        kept.untie(100, 0);
        checks.due("kept at the marking", 8, kept.frame(12));
        checks.due("not kept at the next one", 9, kept.frame(6));
    }

    private static void markingBehindTheLast() {
        Spritehall hall = new Spritehall();
        hall.frame(15);
        Halls.addLost(hall, 1);
        checks.due("the slot 11, not the slot 0 again", 11, hall.frame(1));
        checks.due("3 is too little for a marking", 11, hall.frame(3));
        checks.due("the marking alone", 11, hall.frame(4));
        checks.due("the slot 0", 12, hall.frame(1));
        Spritehall rounds = new Spritehall();
        for (int i = 0; i < 5; i++) {
            Halls.addLost(rounds, 1);
            checks.due("round " + i, 12, rounds.frame(16));
        }
    }

    /** The budget that a lost actor, come just now into the slot 0, needs to be swept by one frame. */
    private static int budgetForSlotZero(int spent) {
        int ofRound = spent % 16;
        int slotsLookedAt = ofRound - 4;
        return slotsLookedAt < 0 ? 4 + 1 : 12 - slotsLookedAt + 4 + 1;
    }

    private static void leftOverIsLost() {
        for (int spent = 0; spent <= 50; spent++) {
            int need = budgetForSlotZero(spent);
            for (int budget = need - 1; budget <= need; budget++) {
                Spritehall hall = new Spritehall();
                hall.frame(spent);
                Halls.addLost(hall, 1);
                String told = "a frame of " + spent + ", then one of " + budget;
                checks.due(told, budget < need ? 11 : 12, hall.frame(budget));
            }
        }
        // Two frames of 2 and 2 are not one of 4; a frame of 0 takes no step at all.
        Spritehall split = Halls.lost(12);
        split.frame(2);
        split.frame(2);
        split.frame(0);
        checks.due("nothing is marked by 2 and 2", 0, split.frame(3));
        // 15 pays for a marking and 11 slots: in the next frame 4 pay for the last slot alone.
        Spritehall last = Halls.lost(12);
        checks.due("all slots but the last", 11, last.frame(15));
        checks.due("the last, and 3 are lost", 12, last.frame(4));
        Halls.addLost(last, 1);
        checks.due("1 is not the fourth of a marking", 11, last.frame(1));
        checks.due("a marking and the slot 0", 12, last.frame(5));
    }

    private static void sweptAtOnce() {
        Spritehall hall = Halls.lost(4);
        for (int i = 0; i < 8; i++) {
            Halls.root(hall);
        }
        checks.due("four of 12", 4, hall.sweep());
        checks.due("the held stay", 8, hall.held());
        for (int i = 0; i < 8; i++) {
            hall.unroot(104 + i);
        }
        checks.due("the other 8", 8, hall.sweep());
        // No marking is asked: late ones, and those held at the marking, are swept too.
        Spritehall late = Halls.held(2);
        late.frame(4);
        late.unroot(101);
        Halls.addLost(late, 3);
        checks.due("lost behind the marking", 4, late.sweep());
        checks.due("the held one stays in its slot", 11, late.free());
    }

    private static void markingBehindASweepOfAll() {
        for (int spent = 0; spent <= 20; spent++) {
            for (int budget = 4; budget <= 5; budget++) {
                Spritehall asked = new Spritehall();
                asked.frame(spent);
                asked.sweep();
                Halls.addLost(asked, 1);
                checks.due("sweep behind a frame of " + spent, budget < 5 ? 11 : 12, asked.frame(budget));

                Spritehall needed = new Spritehall();
                needed.frame(spent);
                Halls.addLost(needed, 13);
                checks.due("spawn behind a frame of " + spent, budget < 5 ? 11 : 12, needed.frame(budget));
            }
        }
        // What an earlier marking noted is not used any more.
        Spritehall noted = Halls.lost(1);
        noted.frame(4);
        noted.sweep();
        Halls.addLost(noted, 1);
        checks.due("its slot costs a marking ahead", 11, noted.frame(3));
    }

    // ---- promises 14 and 15

    private static void eachBudget() {
        for (int budget = 0; budget <= 50; budget++) {
            int due = budget < 4 ? 0 : budget > 16 ? 12 : budget - 4;
            checks.due("frame(" + budget + ")", due, Halls.lost(12).frame(budget));
        }
    }

    private static void frameTellsFree() {
        Spritehall hall = Halls.lost(2);
        hall.wave(0, 0, 0, 0, 1);
        checks.due("behind the wave, and nothing swept", 9, hall.frame(4));
        checks.due("behind one slot", 10, hall.frame(1));
        checks.due("the same by free", 10, hall.free());
        checks.due("nothing in it", 12, new Spritehall().frame(0));
        checks.due("all is full", 0, Halls.lost(12).frame(3));
    }

    private static void budgetOutOfRange() {
        for (int budget : new int[] {-1, 51, -50, 100, MIN, MAX}) {
            Spritehall hall = Halls.lost(1);
            hall.wave(0, 5, 1, 0, 9);
            checks.dueThrow("frame(" + budget + ")", Checks.ARGUMENT, hall, () -> hall.frame(budget));
            checks.due("its wave waits for the first frame", 10, hall.frame(0));
        }
    }

    private static void fiveHundredFrames() {
        Spritehall hall = Halls.held(1);
        hall.wave(500, 0, 0, 0, 1);
        Halls.run(hall, 499);
        checks.due("the 500th frame", 11, hall.frame(0));
        for (int budget : new int[] {0, 1, 50}) {
            checks.due("a 501st of " + budget, true, Checks.thrownBy(() -> hall.frame(budget)) == Checks.STATE);
        }
        checks.due("frames", 500, hall.frames());
        checks.due("nobody came by them", 1, hall.held());
    }

    private static void framesThatHaveRun() {
        Spritehall hall = new Spritehall();
        for (int run = 0; run < 200; run++) {
            checks.due("frames", run, hall.frames());
            hall.frame(run % 51);
        }
        checks.due("one that throws", true, Checks.thrownBy(() -> hall.frame(-1)) == Checks.ARGUMENT);
        checks.due("it has not run", 200, hall.frames());
        hall.sumByReplay();
        checks.due("a replay runs none here", 200, hall.frames());
    }

    // ---- promises 16 to 20

    private static void sweepTellsTheNew() {
        for (int many = 0; many <= 12; many++) {
            Spritehall hall = Halls.lost(many);
            checks.due("of " + many + " lost", many, hall.sweep());
            checks.due("once more", 0, hall.sweep());
        }
        checks.due("of 8 held and 4 lost", 4, Halls.eightHeldInFullSlots().sweep());
        checks.due("of 8 held", 0, Halls.held(8).sweep());
        Spritehall some = Halls.lost(6);
        some.frame(7);
        checks.due("those that a frame has swept are not new", 3, some.sweep());
    }

    private static void freeFromTwelveToNone() {
        for (int many = 0; many <= 12; many++) {
            checks.due(many + " lost", 12 - many, Halls.lost(many).free());
        }
        for (int many = 0; many <= 8; many++) {
            checks.due(many + " held", 12 - many, Halls.held(many).free());
        }
        checks.due("the 13th lets all be swept", 11, Halls.lost(13).free());
    }

    private static void slotsAtTheEdge() {
        Spritehall hall = Halls.lost(12);
        for (int slot = 0; slot <= 11; slot++) {
            checks.due("a new hall's slot " + slot, 0, new Spritehall().age(slot));
            checks.due("the slot " + slot, 1, hall.age(slot));
        }
    }

    private static void agesCount() {
        Spritehall hall = Halls.lost(40);
        // Three rounds through the 12 slots, and four more.
        for (int slot = 0; slot < 12; slot++) {
            checks.due("the slot " + slot, slot < 4 ? 4 : 3, hall.age(slot));
        }
        hall.sweep();
        checks.due("a sweep leaves it", 4, hall.age(0));
        Spritehall one = Halls.lost(1);
        checks.due("a lost one counts", 1, one.age(0));
        checks.due("one that is refused", true, Checks.thrownBy(() -> Halls.root(one, 10, 0, 1)) == Checks.ARGUMENT);
        checks.due("it doesn't count", 0, one.age(1));
    }

    private static void noSuchSlot() {
        for (int slot : new int[] {-1, 12, 13, 100, MIN, MAX}) {
            checks.dueThrow("age(" + slot + ")", Checks.OUT, Spritehall::new, h -> h.age(slot));
            checks.dueThrow("age(" + slot + ") of a full hall", Checks.OUT, () -> Halls.lost(12), h -> h.age(slot));
        }
    }

    private static void sumsOfTheHeld() {
        checks.due("of none", 0, new Spritehall().sum());
        checks.due("of lost ones", 0, Halls.lost(12).sum());
        checks.due("8 roots with 9 lives in the cell 0", (1 + 2 + 3 + 4 + 5 + 6 + 7 + 8) * 190, Halls.held(8).sum());
        Spritehall kept = Halls.threeLinks();
        checks.due("linked ones too", (1 + 2 + 3 + 4) * 190, kept.sum());
        kept.untie(100, 1);
        checks.due("without one that is let go", (1 + 2 + 4) * 190, kept.sum());
        Spritehall fallen = new Spritehall();
        Halls.root(fallen, 0, 0, 1);
        Halls.root(fallen, 0, 1, 3);
        fallen.frame(0);
        checks.due("without one that is fallen", 2 * (20 + 100), fallen.sum());
    }

    private static void partsOfTheSum() {
        int[][] parts = {{0, -1, 1, 10}, {9, -1, 1, 19}, {0, 0, 1, 110}, {0, 1, 1, 210}, {0, -1, 9, 90}, {9, 1, 9, 299}};
        for (int[] part : parts) {
            Spritehall hall = new Spritehall();
            hall.spawn(NONE, part[0], part[1], 0, part[2]);
            checks.due("cell " + part[0] + ", way " + part[1] + ", lives " + part[2], part[3], hall.sum());
        }
        Spritehall last = Halls.lost(39);
        last.spawn(NONE, 9, 1, 1, 9);
        checks.due("the most of the last number", 40 * 299, last.sum());
    }

    private static void replayedAtTheEdge() {
        checks.due("of none", 0, new Spritehall().sumByReplay());
        Spritehall untold = new Spritehall();
        Halls.run(untold, 3);
        checks.due("of frames with nobody", 0, untold.sumByReplay());
        checks.due("without a frame", 36 * 190, Halls.held(8).sumByReplay());

        Spritehall full = new Spritehall();
        for (int i = 0; i < 20; i++) {
            full.wave(i / 5, 5, i % 3 - 1, i % 2, 2);
        }
        for (int i = 0; i < 20; i++) {
            full.frame(i % 5);
            checks.due("20 waves, behind the frame " + i, full.sum(), full.sumByReplay());
        }
        Spritehall refused = Halls.held(8);
        checks.due("one that is refused", true, Checks.thrownBy(() -> Halls.root(refused)) == Checks.STATE);
        checks.due("is not told", 36 * 190, refused.sumByReplay());
        refused.unroot(100);
        checks.due("behind the last frame too", 35 * 190, refused.sumByReplay());

        Spritehall most = new Spritehall();
        most.spawn(NONE, 3, 1, 0, 5);
        Halls.run(most, 500);
        checks.due("500 frames", most.sum(), most.sumByReplay());
        // There and back takes 18 moves and a turn at each end: 500 frames are 25 times that.
        checks.due("its cell, lives and way", 3 + 50 + 200, most.sumByReplay());
    }

    private static void replayedThoughNotSwept() {
        // Without sweeps the handles age late; with a sweep behind each frame they age at once.
        Spritehall hall = new Spritehall();
        int held = 0;
        for (int i = 0; i < 40; i++) {
            int handle = hall.spawn(NONE, i % 10, i % 3 - 1, 0, 1 + i % 9);
            if (i % 8 == 0 && held < 4) {
                held++;
            } else {
                hall.unroot(handle);
            }
            hall.frame(0);
            checks.due("behind actor " + i, hall.sum(), hall.sumByReplay());
        }
        checks.due("four are held", 4, hall.held());
        checks.due("not 0", true, hall.sumByReplay() > 0);
    }

    private static void replayLeavesTheHall() {
        Spritehall hall = Halls.lost(12);
        hall.frame(5);
        hall.wave(2, 0, 0, 0, 1);
        String before = Checks.look(hall);
        hall.sumByReplay();
        hall.sumByReplay();
        checks.due("it looks the same", true, Checks.look(hall).equals(before));
        checks.due("the sweep is where it was", 2, hall.frame(1));
        checks.due("the wave comes once", 1, hall.frame(0));
        checks.due("its number", 12, hall.number(200));
    }
}
