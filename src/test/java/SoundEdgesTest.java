/** The edges that 'Terms' names for sounds, and those of the promises 21 to 23: a test for each sentence. */
public final class SoundEdgesTest {
    private static final int MIN = Integer.MIN_VALUE, MAX = Integer.MAX_VALUE;
    private static final Checks checks = new Checks();

    public static void main(String[] args) {
        checks.sentence("Sounds are numbered from 0, up to 30", SoundEdgesTest::thirtySounds);
        checks.sentence("a sound is made by an actor, and can be heard as long as that is held",
                SoundEdgesTest::heardOfTheHeld);
        checks.sentence("and less than 5 frames have run since it was made", SoundEdgesTest::lessThanFiveFrames);
        checks.sentence("Of those that can be heard, three at most are", SoundEdgesTest::threeAtMost);
        checks.sentence("those with the least distance of the cells of actor and ear", SoundEdgesTest::leastDistance);
        checks.sentence("of the same distance the lower ones", SoundEdgesTest::lowerOfTheSame);
        checks.sentence("The ear is in the cell 0 at first.", SoundEdgesTest::earAtFirst);
        checks.sentence("Promise 21: cell: 0 to 9", SoundEdgesTest::listenAtTheEdge);
        checks.sentence("Promise 21: Returns the cell before.", SoundEdgesTest::cellBefore);
        checks.sentence("Promise 21: Throws IllegalArgumentException if cell is out of range",
                SoundEdgesTest::listenOutOfRange);
        checks.sentence("Promise 22: Returns its number.", SoundEdgesTest::numbersOfSounds);
        checks.sentence("Promise 22: Throws IndexOutOfBoundsException if there is no such actor",
                SoundEdgesTest::noSuchMaker);
        checks.sentence("Promise 22: Throws IllegalStateException if there are 30", SoundEdgesTest::soundOfA31st);
        checks.sentence("Promise 23: Returns the sounds that are heard now", SoundEdgesTest::heardNow);
        checks.sentence("Promise 23: as a set: the bit s for the sound s", SoundEdgesTest::bitsOfSounds);
        checks.end();
    }

    private static int rootIn(Spritehall hall, int cell) {
        return Halls.root(hall, cell, 0, 9);
    }

    private static void thirtySounds() {
        Spritehall hall = Halls.held(1);
        for (int s = 0; s < 30; s++) {
            checks.due("sound " + s, s, hall.sound(100));
        }
        checks.dueThrow("sound 30", Checks.STATE, hall, () -> hall.sound(100));
    }

    private static void heardOfTheHeld() {
        Spritehall lost = Halls.held(2);
        lost.sound(100);
        lost.sound(101);
        lost.unroot(100);
        checks.due("its actor is lost, and lies in its slot", 2, lost.heard());
        lost.sweep();
        Halls.root(lost);
        checks.due("another one is in that slot", 2, lost.heard());
        lost.unroot(101);
        checks.due("nobody is held that made one", 0, lost.heard());

        Spritehall fallen = new Spritehall();
        Halls.root(fallen, 0, 0, 1);
        Halls.root(fallen, 0, 1, 2);
        fallen.sound(100);
        fallen.sound(101);
        checks.due("ahead of the frame", 3, fallen.heard());
        fallen.frame(0);
        checks.due("its actor is fallen", 2, fallen.heard());

        Spritehall kept = Halls.threeLinks();
        kept.sound(102);
        checks.due("of one that is kept", 1, kept.heard());
        kept.untie(100, 1);
        checks.due("of one that is kept no more", 0, kept.heard());
    }

    private static void lessThanFiveFrames() {
        for (int ahead = 0; ahead < 3; ahead++) {
            Spritehall hall = Halls.held(1);
            Halls.run(hall, ahead);
            hall.sound(100);
            for (int run = 0; run < 8; run++) {
                checks.due(run + " frames have run since the frame " + ahead, run < 5 ? 1 : 0, hall.heard());
                hall.frame(run);
            }
        }
        Spritehall each = Halls.held(1);
        // One sound a frame: the last five would be heard, were it not for the three voices.
        for (int s = 0; s < 10; s++) {
            each.sound(100);
            int oldest = s < 5 ? 0 : s - 4;
            checks.due("one a frame, " + s, s < 2 ? (2 << s) - 1 : 7 << oldest & (2 << s) - 1, each.heard());
            each.frame(0);
        }
    }

    private static void threeAtMost() {
        for (int made = 0; made <= 30; made++) {
            Spritehall hall = Halls.held(1);
            for (int s = 0; s < made; s++) {
                hall.sound(100);
            }
            checks.due("of " + made, (1 << (made < 3 ? made : 3)) - 1, hall.heard());
        }
        Spritehall freed = Halls.held(2);
        for (int s = 0; s < 4; s++) {
            freed.sound(s == 0 ? 101 : 100);
        }
        checks.due("the fourth has no voice", 0b0111, freed.heard());
        freed.unroot(101);
        checks.due("one that can't be heard takes no voice", 0b1110, freed.heard());
    }

    private static void leastDistance() {
        int[] cells = {9, 0, 8, 1, 7, 2, 5};
        Spritehall hall = new Spritehall();
        for (int cell : cells) {
            hall.sound(rootIn(hall, cell));
        }
        // The cells 0, 1, 2 up to the ear 2; at 3 and 4 the cells 1, 2, 5; at 5 and 6 the cells 5, 7, 8; then 7, 8, 9.
        int[] due = {0b0101010, 0b0101010, 0b0101010, 0b1101000, 0b1101000, 0b1010100, 0b1010100, 0b0010101,
            0b0010101, 0b0010101};
        for (int ear = 0; ear < 10; ear++) {
            hall.listen(ear);
            checks.due("the ear in " + ear, due[ear], hall.heard());
        }
        Spritehall ends = new Spritehall();
        for (int cell : new int[] {9, 8, 8, 8}) {
            ends.sound(rootIn(ends, cell));
        }
        checks.due("the distance 9 is the least near", 0b1110, ends.heard());
        ends.unroot(103);
        checks.due("the distance 9 is heard as the third", 0b0111, ends.heard());
    }

    private static void lowerOfTheSame() {
        Spritehall hall = new Spritehall();
        int below = rootIn(hall, 3);
        int above = rootIn(hall, 5);
        hall.listen(4);
        int[] makers = {above, below, below, above, below};
        for (int maker : makers) {
            hall.sound(maker);
        }
        checks.due("on both sides of the ear", 0b00111, hall.heard());
        hall.sound(rootIn(hall, 4));
        checks.due("a nearer one takes the third's voice", 0b100011, hall.heard());
        hall.unroot(above);
        checks.due("the lower ones of those that are left", 0b100110, hall.heard());
    }

    private static void earAtFirst() {
        checks.due("the cell before the first one", 0, new Spritehall().listen(9));
        Spritehall hall = new Spritehall();
        for (int cell : new int[] {4, 3, 2, 1}) {
            hall.sound(rootIn(hall, cell));
        }
        checks.due("the farthest from 0 is not heard", 0b1110, hall.heard());
    }

    private static void listenAtTheEdge() {
        Spritehall hall = new Spritehall();
        int before = 0;
        for (int cell : new int[] {0, 9, 1, 8, 2, 7, 3, 6, 4, 5, 0}) {
            checks.due("listen(" + cell + ")", before, hall.listen(cell));
            before = cell;
        }
    }

    private static void cellBefore() {
        Spritehall hall = new Spritehall();
        checks.due("of none yet", 0, hall.listen(6));
        checks.due("of one", 6, hall.listen(6));
        Halls.run(hall, 7);
        checks.due("frames leave it", 6, hall.listen(0));
        checks.due("the first cell", 0, hall.listen(1));
        checks.due("one that throws leaves it", true, Checks.thrownBy(() -> hall.listen(10)) == Checks.ARGUMENT);
        checks.due("behind that", 1, hall.listen(1));
    }

    private static void listenOutOfRange() {
        for (int cell : new int[] {-1, 10, -10, 100, MIN, MAX}) {
            Spritehall hall = new Spritehall();
            hall.listen(7);
            checks.dueThrow("listen(" + cell + ")", Checks.ARGUMENT, hall, () -> hall.listen(cell));
            checks.due("the ear stays", 7, hall.listen(0));
        }
    }

    private static void numbersOfSounds() {
        Spritehall hall = Halls.held(2);
        checks.due("the first", 0, hall.sound(101));
        checks.due("of another actor", 1, hall.sound(100));
        checks.due("one that throws", true, Checks.thrownBy(() -> hall.sound(102)) == Checks.OUT);
        checks.due("a refused one takes no number", 2, hall.sound(100));
        Halls.run(hall, 5);
        checks.due("the numbers of ended ones are not taken again", 3, hall.sound(100));
    }

    private static void noSuchMaker() {
        for (int handle : Halls.neverHandles()) {
            checks.dueThrow("in an empty hall, " + handle, Checks.OUT, Spritehall::new, h -> h.sound(handle));
            checks.dueThrow("of none, " + handle, Checks.OUT, () -> Halls.held(2), h -> h.sound(handle));
        }
        Spritehall hall = Halls.held(3);
        hall.unroot(100);
        hall.sweep();
        Halls.root(hall);
        hall.unroot(101);
        checks.dueThrow("of a swept one", Checks.OUT, hall, () -> hall.sound(100));
        checks.dueThrow("of a lost one", Checks.OUT, hall, () -> hall.sound(101));
        checks.dueThrow("of one to come", Checks.OUT, hall, () -> hall.sound(103));
        Spritehall fallen = new Spritehall();
        Halls.root(fallen, 0, 0, 1);
        Halls.root(fallen, 0, 1, 2);
        fallen.frame(0);
        checks.dueThrow("of a fallen one", Checks.OUT, fallen, () -> fallen.sound(100));
        checks.due("the first that is made", 0, fallen.sound(101));
    }

    private static void soundOfA31st() {
        Spritehall hall = Halls.held(2);
        for (int s = 0; s < 29; s++) {
            hall.sound(100);
        }
        checks.due("the 30th", 29, hall.sound(101));
        checks.dueThrow("the 31st", Checks.STATE, hall, () -> hall.sound(101));
        hall.unroot(100);
        checks.dueThrow("though 29 are of a lost one", Checks.STATE, hall, () -> hall.sound(101));
        Halls.run(hall, 5);
        checks.dueThrow("though all have ended", Checks.STATE, hall, () -> hall.sound(101));
    }

    private static void heardNow() {
        Spritehall hall = new Spritehall();
        checks.due("of none", 0, hall.heard());
        hall.spawn(Halls.NONE, 9, -1, 0, 9);
        for (int s = 0; s < 4; s++) {
            hall.sound(s == 0 ? 100 : s == 1 ? rootIn(hall, 7) : 101);
        }
        checks.due("the first is far", 0b1110, hall.heard());
        hall.frame(0);
        checks.due("in 8 it is far still", 0b1110, hall.heard());
        hall.frame(0);
        checks.due("in 7, where the others are", 0b0111, hall.heard());
        checks.due("asked twice", 0b0111, hall.heard());
        hall.listen(9);
        checks.due("the ear in 9", 0b0111, hall.heard());
        hall.frame(0);
        checks.due("in 6 it is farther from 9", 0b1110, hall.heard());
        hall.listen(6);
        checks.due("the ear in 6", 0b0111, hall.heard());
    }

    private static void bitsOfSounds() {
        for (int which = 0; which < 30; which++) {
            Spritehall hall = Halls.held(2);
            for (int s = 0; s < 30; s++) {
                hall.sound(s == which ? 101 : 100);
            }
            hall.unroot(100);
            checks.due("only the sound " + which, 1L << which, hall.heard());
        }
        Spritehall last = new Spritehall();
        rootIn(last, 9);
        rootIn(last, 0);
        for (int s = 0; s < 30; s++) {
            last.sound(s < 27 ? 100 : 101);
        }
        checks.due("the last three", 7 << 27, last.heard());
    }
}
