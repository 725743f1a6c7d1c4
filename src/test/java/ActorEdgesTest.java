/** The edges that 'Terms' names for actors, and those of the promises 1 to 12: a test for each sentence. */
public final class ActorEdgesTest {
    private static final int NONE = Spritehall.NONE;
    private static final int KEPT = Spritehall.KEPT, COUNTED = Spritehall.COUNTED, WEAK = Spritehall.WEAK;
    private static final int MIN = Integer.MIN_VALUE, MAX = Integer.MAX_VALUE;
    private static final Checks checks = new Checks();

    public static void main(String[] args) {
        terms();
        spawns();
        links();
        questions();
        checks.end();
    }

    private static void terms() {
        checks.sentence("The constants: NONE = -1", () -> checks.due("NONE", -1, NONE));
        checks.sentence("KEPT = 0, COUNTED = 1, WEAK = 2: Kinds of links.", ActorEdgesTest::kindsAreNumbered);
        checks.sentence("Actors are numbered from 0 in the order in which they come", ActorEdgesTest::numbersByOrder);
        checks.sentence("up to 40 in all", ActorEdgesTest::fortyInAll);
        checks.sentence("An actor lies in one of 12 slots from then on until that is swept",
                ActorEdgesTest::liesInItsSlot);
        checks.sentence("its handle is 100 * age + slot, where age counts how many actors have come into that slot, "
                + "itself too", ActorEdgesTest::handlesByAge);
        checks.sentence("up to 3 links to other actors in an order", ActorEdgesTest::threeLinksInOrder);
        checks.sentence("An actor with no lives is fallen, for good.", ActorEdgesTest::fallenForGood);
        checks.sentence("An actor that is not fallen is held if it is a root", ActorEdgesTest::rootsAreHeld);
        checks.sentence("or if a held one has a link to it that is not weak", ActorEdgesTest::linksHold);
        checks.sentence("no others are (so not two that only hold one another)", ActorEdgesTest::noOthersAreHeld);
        checks.sentence("All that is told and asked is about held actors, named by their handles",
                ActorEdgesTest::onlyTheHeldAreNamed);
        checks.sentence("other ones only fill slots, and are never held again", ActorEdgesTest::neverHeldAgain);
        checks.sentence("An actor comes into the lowest slot that is free", ActorEdgesTest::lowestFreeSlot);
        checks.sentence("if none is, all is swept at once ahead of that", ActorEdgesTest::sweptForASlot);
        checks.sentence("At most 8 actors are held.", ActorEdgesTest::eightAtMost);
    }

    private static void spawns() {
        checks.sentence("Promise 1: Creates a hall without actors.", ActorEdgesTest::hallWithoutActors);
        checks.sentence("Promise 2: as a root", ActorEdgesTest::comesAsRoot);
        checks.sentence("Promise 2: or with a link that keeps it from an owner, behind that one's other links",
                ActorEdgesTest::comesBehindOtherLinks);
        checks.sentence("Promise 2: owner: a handle, or NONE for a root", ActorEdgesTest::ownersAtTheEdge);
        checks.sentence("Promise 2: cell: 0 to 9", () -> spawnRange(0, 9, 1));
        checks.sentence("Promise 2: way: -1 to 1", () -> spawnRange(-1, 1, 2));
        checks.sentence("Promise 2: side: 0 or 1", () -> spawnRange(0, 1, 3));
        checks.sentence("Promise 2: lives: 1 to 9", () -> spawnRange(1, 9, 4));
        checks.sentence("Promise 2: cell, way, side and lives are those that were given",
                ActorEdgesTest::spawnKeepsWhatIsGiven);
        checks.sentence("Promise 2: Returns its handle.", ActorEdgesTest::spawnTellsItsHandle);
        checks.sentence("Promise 2: Throws IllegalArgumentException if cell, way, side or lives is out of range",
                ActorEdgesTest::spawnWithSeveralWrong);
        checks.sentence("Promise 2: Throws IndexOutOfBoundsException if there is no such owner",
                ActorEdgesTest::noSuchOwner);
        checks.sentence("Promise 2: Throws IllegalStateException if 8 are held", ActorEdgesTest::spawnWithEightHeld);
        checks.sentence("Promise 2: Throws IllegalStateException if .. 40 have come", ActorEdgesTest::spawnOfAFortyFirst);
        checks.sentence("Promise 2: Throws IllegalStateException if .. the owner has 3 links",
                ActorEdgesTest::spawnByThreeLinks);
    }

    private static void links() {
        checks.sentence("Promise 3: Makes a root none any more.", ActorEdgesTest::rootNoMore);
        checks.sentence("Promise 3: Returns how many actors are held then.", ActorEdgesTest::unrootCounts);
        checks.sentence("Promise 3: Throws IndexOutOfBoundsException if there is no such actor",
                () -> noSuchActor("unroot", Spritehall::unroot));
        checks.sentence("Promise 3: Throws IllegalStateException if it is no root", ActorEdgesTest::unrootOfNoRoot);
        checks.sentence("Promise 4: behind its other links", ActorEdgesTest::tieBehindOthers);
        checks.sentence("Promise 4: there may be several links to the same one", ActorEdgesTest::severalToTheSame);
        checks.sentence("Promise 4: kind: KEPT, COUNTED or WEAK", ActorEdgesTest::kindsAtTheEdge);
        checks.sentence("Promise 4: Returns how many links the actor has then.", ActorEdgesTest::tieCounts);
        checks.sentence("Promise 4: Throws IndexOutOfBoundsException if there is no such actor",
                () -> noSuchActor("tie", (hall, handle) -> hall.tie(handle, 102, KEPT)));
        checks.sentence("Promise 4: Throws IndexOutOfBoundsException if there is no such .. other",
                () -> noSuchActor("tie to", (hall, handle) -> hall.tie(102, handle, KEPT)));
        checks.sentence("Promise 4: Throws IllegalArgumentException if both are the same", ActorEdgesTest::bothTheSame);
        checks.sentence("Promise 4: Throws IllegalStateException if the actor has 3 links", ActorEdgesTest::tieOfAFourth);
        checks.sentence("Promise 5: Takes a link of an actor away; those behind it move up.", ActorEdgesTest::movesUp);
        checks.sentence("Promise 5: place: from 0", () -> placesFromZero("untie", (hall, place) -> {
            int to = hall.linkAt(100, place);
            hall.untie(100, place);
            return hall.isHeld(to) ? NONE : to;
        }));
        checks.sentence("Promise 5: Returns how many actors are held then.", ActorEdgesTest::untieCounts);
        checks.sentence("Promise 5: Throws IndexOutOfBoundsException if there is no such actor",
                () -> noSuchActor("untie", (hall, handle) -> hall.untie(handle, 0)));
        checks.sentence("Promise 5: Throws IndexOutOfBoundsException if .. it has no such link",
                () -> noSuchLink("untie", Spritehall::untie));
    }

    private static void questions() {
        checks.sentence("Promise 6: handle: any number", ActorEdgesTest::isHeldOfAnyNumber);
        checks.sentence("Promise 7: Returns how many actors are held.", ActorEdgesTest::heldFromNoneToEight);
        checks.sentence("Promise 8: Throws IndexOutOfBoundsException if there is no such actor",
                () -> noSuchActor("number", Spritehall::number));
        checks.sentence("Promise 8: Returns the number of an actor.", ActorEdgesTest::numberInATakenSlot);
        checks.sentence("Promise 9: Returns the cell of an actor.", ActorEdgesTest::cellsToTheEnds);
        checks.sentence("Promise 9: Throws IndexOutOfBoundsException if there is no such actor",
                () -> noSuchActor("cell", Spritehall::cell));
        checks.sentence("Promise 10: Throws IndexOutOfBoundsException if there is no such actor",
                () -> noSuchActor("lives", Spritehall::lives));
        checks.sentence("Promise 10: Returns the lives of an actor.", ActorEdgesTest::livesToTheLast);
        checks.sentence("Promise 11: place: from 0",
                () -> placesFromZero("linkAt", (hall, place) -> hall.linkAt(100, place)));
        checks.sentence("Promise 11: Throws IndexOutOfBoundsException if there is no such actor",
                () -> noSuchActor("linkAt", (hall, handle) -> hall.linkAt(handle, 0)));
        checks.sentence("Promise 11: Throws IndexOutOfBoundsException if .. it has no such link",
                () -> noSuchLink("linkAt", Spritehall::linkAt));
        checks.sentence("Promise 11: Returns the handle of the other one; NONE if that is not held.",
                ActorEdgesTest::linkToOneNotHeld);
        checks.sentence("Promise 12: Counts the COUNTED links", ActorEdgesTest::countsCountedAlone);
        checks.sentence("Promise 12: that held actors have to an actor", ActorEdgesTest::countsOfTheHeldAlone);
        checks.sentence("Promise 12: Throws IndexOutOfBoundsException if there is no such actor",
                () -> noSuchActor("count", Spritehall::count));
    }

    private interface OfActor {
        void on(Spritehall hall, int handle);
    }

    private interface OfPlace {
        int on(Spritehall hall, int place);
    }

    private interface OfLink {
        void on(Spritehall hall, int handle, int place);
    }

    /** 101 is lost, 103 is fallen, 100 is swept, 200 came into its slot, and 102 is held with a link to 200. */
    private static Spritehall oneOfEachKind() {
        Spritehall hall = Halls.lost(1);
        Halls.root(hall);
        Halls.root(hall, 4, 1, 9);
        hall.sweep();
        Halls.root(hall);
        hall.unroot(101);
        Halls.root(hall, 4, 0, 1);
        hall.frame(0);
        hall.tie(102, 200, WEAK);
        return hall;
    }

    private static void noSuchActor(String call, OfActor run) {
        int[] never = Halls.neverHandles();
        for (int handle : never) {
            checks.dueThrow(call + " in an empty hall, " + handle, Checks.OUT, Spritehall::new, h -> run.on(h, handle));
            checks.dueThrow(call + " of none, " + handle, Checks.OUT, ActorEdgesTest::oneOfEachKind,
                    h -> run.on(h, handle));
        }
        for (int handle : new int[] {100, 101, 103, 104, 201, 300, 1200}) {
            checks.dueThrow(call + " of one that is swept, lost, fallen or to come, " + handle, Checks.OUT,
                    ActorEdgesTest::oneOfEachKind, h -> run.on(h, handle));
        }
    }

    private static void noSuchLink(String call, OfLink run) {
        for (int links = 0; links <= 3; links++) {
            for (int place : new int[] {-1, links, links + 1, 12, MIN, MAX}) {
                Spritehall hall = Halls.held(2);
                for (int i = 0; i < links; i++) {
                    hall.tie(100, 101, KEPT);
                }
                String told = call + " of " + links + " links at " + place;
                checks.dueThrow(told, Checks.OUT, hall, () -> run.on(hall, 100, place));
            }
            for (int place = 0; place < links; place++) {
                Spritehall hall = Halls.held(2);
                for (int i = 0; i < links; i++) {
                    hall.tie(100, 101, KEPT);
                }
                int at = place;
                Class<?> thrown = Checks.thrownBy(() -> run.on(hall, 100, at));
                checks.due(call + " of " + links + " links at " + place + " throws nothing", true, thrown == null);
            }
        }
    }

    private static void placesFromZero(String call, OfPlace run) {
        for (int place = 0; place < 3; place++) {
            checks.due(call + " at " + place, 101 + place, run.on(Halls.threeLinks(), place));
        }
    }

    // ---- terms

    private static void kindsAreNumbered() {
        checks.due("KEPT", 0, KEPT);
        checks.due("COUNTED", 1, COUNTED);
        checks.due("WEAK", 2, WEAK);
    }

    private static void numbersByOrder() {
        Spritehall hall = new Spritehall();
        checks.due("the first", 0, hall.number(Halls.root(hall)));
        checks.due("a linked one", 1, hall.number(Halls.child(hall, 100)));
        hall.wave(0, 0, 0, 0, 1);
        hall.frame(0);
        checks.due("one that came by a wave", 2, hall.number(102));
        checks.dueThrow("one that is refused", Checks.ARGUMENT, hall, () -> Halls.root(hall, 10, 0, 1));
        checks.due("the next of that", 3, hall.number(Halls.root(hall)));
        hall.unroot(103);
        hall.sweep();
        checks.due("the next in a swept slot", 4, hall.number(Halls.root(hall)));
    }

    private static void fortyInAll() {
        Spritehall hall = new Spritehall();
        for (int i = 0; i < 40; i++) {
            if (i % 2 == 0) {
                Halls.root(hall);
            } else {
                hall.wave(hall.frames(), 0, 0, 0, 1);
                hall.frame(0);
            }
            // Each is swept for the next one, so all come into the slot 0.
            checks.due("one that came as " + i, i, hall.number(100 * (i + 1)));
            hall.unroot(100 * (i + 1));
            hall.sweep();
        }
        checks.dueThrow("one more", Checks.STATE, hall, () -> Halls.root(hall));
    }

    private static void liesInItsSlot() {
        Spritehall hall = new Spritehall();
        for (int slot = 0; slot < 12; slot++) {
            int handle = Halls.root(hall);
            checks.due("the slot of actor " + slot, 100 + slot, handle);
            hall.unroot(handle);
            checks.due("it fills its slot though it is not held", 11 - slot, hall.free());
        }
        checks.due("a frame that sweeps nothing", 0, hall.frame(0));
        checks.due("swept", 12, hall.sweep());
        checks.due("all are free", 12, hall.free());
    }

    private static void handlesByAge() {
        Spritehall hall = new Spritehall();
        for (int age = 1; age <= 3; age++) {
            for (int slot = 0; slot < 12; slot++) {
                int handle = Halls.root(hall);
                checks.due("age " + age + ", slot " + slot, 100 * age + slot, handle);
                hall.unroot(handle);
            }
            hall.sweep();
        }
        Spritehall old = new Spritehall();
        for (int age = 1; age <= 40; age++) {
            checks.due("the slot 0 at the age of " + age, 100 * age, Halls.root(old));
            old.unroot(100 * age);
            old.sweep();
        }
    }

    private static void threeLinksInOrder() {
        Spritehall hall = Halls.held(4);
        checks.dueThrow("no link yet", Checks.OUT, hall, () -> hall.linkAt(100, 0));
        hall.tie(100, 103, WEAK);
        hall.tie(100, 101, KEPT);
        hall.tie(100, 102, COUNTED);
        checks.due("the first", 103, hall.linkAt(100, 0));
        checks.due("the second", 101, hall.linkAt(100, 1));
        checks.due("the third", 102, hall.linkAt(100, 2));
        checks.dueThrow("a fourth", Checks.STATE, hall, () -> hall.tie(100, 101, KEPT));
        checks.dueThrow("no place 3", Checks.OUT, hall, () -> hall.linkAt(100, 3));
    }

    private static void fallenForGood() {
        Spritehall hall = new Spritehall();
        int keeper = Halls.root(hall, 9, 0, 9);
        int falls = Halls.root(hall, 3, 0, 1);
        int stands = Halls.root(hall, 3, 1, 2);
        hall.tie(keeper, falls, KEPT);
        hall.tie(keeper, falls, COUNTED);
        hall.frame(0);
        checks.due("its only life is lost, though it is a root and kept", false, hall.isHeld(falls));
        checks.due("one life is left", true, hall.isHeld(stands));
        Halls.run(hall, 3);
        checks.due("some frames later", false, hall.isHeld(falls));
        checks.due("what hit it has nobody to hit", 1, hall.lives(stands));
        checks.due("a link away from it", 2, hall.untie(keeper, 0));
        checks.due("it fills its slot still", 9, hall.free());

        Spritehall both = new Spritehall();
        Halls.root(both, 0, 0, 1);
        Halls.root(both, 0, 1, 1);
        both.frame(0);
        checks.due("the last two fall together", 0, both.held());
    }

    private static void rootsAreHeld() {
        Spritehall hall = Halls.held(1);
        checks.due("a root without links", true, hall.isHeld(100));
        int child = Halls.child(hall, 100);
        hall.tie(child, 100, KEPT);
        hall.unroot(100);
        checks.due("no root any more", false, hall.isHeld(100));
        Spritehall hit = new Spritehall();
        Halls.root(hit, 0, 0, 2);
        Halls.root(hit, 0, 1, 1);
        hit.frame(0);
        checks.due("a root with its last life", true, hit.isHeld(100));
        checks.due("a root without lives", false, hit.isHeld(101));
    }

    private static void linksHold() {
        for (int kind = KEPT; kind <= WEAK; kind++) {
            Spritehall hall = Halls.held(2);
            hall.tie(100, 101, kind);
            hall.unroot(101);
            checks.due("by a link of kind " + kind, kind != WEAK, hall.isHeld(101));
        }
        Spritehall weak = Halls.held(2);
        weak.tie(100, 101, WEAK);
        weak.tie(100, 101, WEAK);
        weak.tie(100, 101, WEAK);
        checks.due("three weak links hold nobody", 1, weak.unroot(101));

        Spritehall chain = Halls.held(8);
        for (int i = 7; i > 0; i--) {
            chain.tie(100 + i, 100 + i - 1, i % 2 == 0 ? KEPT : COUNTED);
        }
        for (int i = 0; i < 7; i++) {
            checks.due("a chain of 8 from the last to the first", 8, chain.unroot(100 + i));
        }
        checks.due("the root at its end", 0, chain.unroot(107));
    }

    private static void noOthersAreHeld() {
        Spritehall two = Halls.held(3);
        two.tie(100, 101, KEPT);
        two.tie(101, 100, COUNTED);
        checks.due("one of the two is a root", 3, two.unroot(100));
        checks.due("two that only hold one another", 1, two.unroot(101));
        checks.due("the first", false, two.isHeld(100));
        checks.due("the second", false, two.isHeld(101));

        Spritehall ring = Halls.held(8);
        for (int i = 0; i < 8; i++) {
            ring.tie(100 + i, 100 + (i + 1) % 8, KEPT);
        }
        for (int i = 0; i < 7; i++) {
            checks.due("a ring with a root", 8, ring.unroot(100 + i));
        }
        checks.due("a ring of 8 without a root", 0, ring.unroot(107));

        // A link from one that is not held holds nobody, though both are in their slots still.
        Spritehall lost = Halls.held(2);
        int child = Halls.child(lost, 100);
        lost.unroot(100);
        checks.due("what a lost one keeps", false, lost.isHeld(child));
    }

    private static void onlyTheHeldAreNamed() {
        Spritehall hall = oneOfEachKind();
        checks.due("two are held", 2, hall.held());
        checks.due("a held one", 2, hall.number(102));
        checks.due("one in a slot that is taken again", 3, hall.number(200));
        for (int handle : new int[] {100, 101, 103}) {
            checks.due("isHeld(" + handle + ")", false, hall.isHeld(handle));
            checks.dueThrow("lives of " + handle, Checks.OUT, ActorEdgesTest::oneOfEachKind, h -> h.lives(handle));
            checks.dueThrow("sound of " + handle, Checks.OUT, ActorEdgesTest::oneOfEachKind, h -> h.sound(handle));
        }
        // The number of an actor is no handle, and neither is its slot.
        checks.dueThrow("named by its number", Checks.OUT, ActorEdgesTest::oneOfEachKind, h -> h.cell(2));
    }

    private static void neverHeldAgain() {
        Spritehall hall = Halls.held(2);
        int child = Halls.child(hall, 100);
        hall.tie(101, child, WEAK);
        hall.untie(100, 0);
        checks.due("only a weak link is left", false, hall.isHeld(child));
        checks.dueThrow("a link that would hold it", Checks.OUT, hall, () -> hall.tie(100, child, KEPT));
        checks.dueThrow("a link of it", Checks.OUT, hall, () -> hall.tie(child, 100, KEPT));
        checks.dueThrow("a child of it", Checks.OUT, hall, () -> Halls.child(hall, child));
        hall.frame(50);
        hall.sweep();
        checks.due("behind a sweep", false, hall.isHeld(child));
        checks.due("another one in its slot", 202, Halls.root(hall));
        checks.due("its handle there", false, hall.isHeld(child));
        checks.due("the weak link leads to nobody", NONE, hall.linkAt(101, 0));
    }

    private static void lowestFreeSlot() {
        Spritehall hall = Halls.lost(3);
        Halls.root(hall);
        Halls.addLost(hall, 1);
        Halls.root(hall);
        hall.sweep();
        // The slots 3 and 5 are filled.
        int[] due = {200, 201, 202, 204, 106, 107};
        for (int handle : due) {
            checks.due("the lowest that is free", handle, Halls.root(hall));
        }
        hall.unroot(202);
        hall.unroot(200);
        hall.sweep();
        checks.due("the lower of two", 300, Halls.root(hall));
        checks.due("the higher of two", 302, Halls.root(hall));
    }

    private static void sweptForASlot() {
        Spritehall last = Halls.lost(11);
        checks.due("the last free slot is taken without a sweep", 111, Halls.root(last));
        checks.due("none is free", 0, last.free());

        Spritehall hall = Halls.lost(5);
        for (int i = 0; i < 7; i++) {
            Halls.root(hall);
        }
        checks.due("none is free with 7 held", 0, hall.free());
        checks.due("the lowest of the swept", 200, Halls.root(hall));
        checks.due("the other four are free", 4, hall.free());
        checks.due("nothing is left to sweep", 0, hall.sweep());
        checks.due("all 8 are held", 8, hall.held());

        // An owner's link comes behind the sweep, and the one that comes is not swept.
        Spritehall owned = Halls.held(1);
        Halls.addLost(owned, 11);
        checks.due("a linked one", 201, Halls.child(owned, 100));
        checks.due("it is held", true, owned.isHeld(201));
        checks.due("the other slots are free", 10, owned.free());
        checks.due("its number", 12, owned.number(201));

        Spritehall refused = Halls.eightHeldInFullSlots();
        checks.dueThrow("one that is refused", Checks.STATE, refused, () -> Halls.root(refused));
        checks.due("nothing is swept for it", 0, refused.free());
    }

    private static void eightAtMost() {
        Spritehall hall = Halls.held(7);
        hall.wave(0, 0, 0, 0, 1);
        hall.wave(0, 0, 0, 0, 1);
        hall.frame(0);
        checks.due("by two waves", 8, hall.held());
        checks.dueThrow("by spawn", Checks.STATE, hall, () -> Halls.root(hall));
        checks.dueThrow("by spawn with an owner", Checks.STATE, () -> Halls.held(8), h -> Halls.child(h, 100));
        hall.tie(100, 107, KEPT);
        checks.due("one less a root, but held by a link", 8, hall.unroot(107));
        checks.dueThrow("while that is held", Checks.STATE, hall, () -> Halls.root(hall));
        checks.due("one less", 7, hall.untie(100, 0));
        checks.due("one more again", 108, Halls.root(hall));
    }

    // ---- promises 1 and 2

    private static void hallWithoutActors() {
        Spritehall hall = new Spritehall();
        checks.due("held", 0, hall.held());
        checks.due("free", 12, hall.free());
        checks.due("sum", 0, hall.sum());
        checks.due("sumByReplay", 0, hall.sumByReplay());
        checks.due("heard", 0, hall.heard());
        checks.due("sweep", 0, hall.sweep());
        checks.due("a frame with nobody in it", 12, hall.frame(50));
        checks.due("frames", 1, hall.frames());
        checks.due("the first that comes", 100, Halls.root(hall));
        checks.due("nobody comes into another hall", 0, new Spritehall().held());
    }

    private static void comesAsRoot() {
        Spritehall hall = Halls.held(1);
        checks.due("it can be unrooted", 0, hall.unroot(100));
        checks.due("it has no links", true, Checks.thrownBy(() -> Halls.held(1).linkAt(100, 0)) == Checks.OUT);
    }

    private static void comesBehindOtherLinks() {
        for (int others = 0; others < 3; others++) {
            Spritehall hall = Halls.held(2);
            for (int i = 0; i < others; i++) {
                hall.tie(100, 101, WEAK);
            }
            int child = Halls.child(hall, 100);
            checks.due("behind " + others, child, hall.linkAt(100, others));
            checks.due("it is held", true, hall.isHeld(child));
            checks.due("the link keeps, it doesn't count", 0, hall.count(child));
            checks.dueThrow("it is no root", Checks.STATE, hall, () -> hall.unroot(child));
            checks.due("it is held by that link alone", 2, hall.untie(100, others));
        }
    }

    private static void ownersAtTheEdge() {
        Spritehall hall = Halls.held(2);
        checks.due("NONE", 102, hall.spawn(-1, 0, 0, 0, 1));
        checks.due("the lowest handle", 103, hall.spawn(100, 0, 0, 0, 1));
        checks.due("the highest handle", 104, hall.spawn(103, 0, 0, 0, 1));
        checks.due("those of 103 hang on 100", 3, hall.untie(100, 0));
        checks.dueThrow("one below NONE", Checks.OUT, hall, () -> hall.spawn(-2, 0, 0, 0, 1));
        checks.dueThrow("one above NONE", Checks.OUT, hall, () -> hall.spawn(0, 0, 0, 0, 1));
        checks.dueThrow("one below the handles", Checks.OUT, hall, () -> hall.spawn(99, 0, 0, 0, 1));
        checks.dueThrow("one above the handles", Checks.OUT, hall, () -> hall.spawn(105, 0, 0, 0, 1));
    }

    private static int spawnWith(Spritehall hall, int which, int value) {
        int[] given = {NONE, 5, 0, 0, 5};
        given[which] = value;
        return hall.spawn(given[0], given[1], given[2], given[3], given[4]);
    }

    private static void spawnRange(int least, int most, int which) {
        for (int value : new int[] {least - 1, most + 1, least - 100, most + 100, MIN, MAX}) {
            checks.dueThrow("spawn with " + value, Checks.ARGUMENT, Spritehall::new, h -> spawnWith(h, which, value));
            checks.dueThrow("spawn with an owner and " + value, Checks.ARGUMENT, () -> Halls.held(1),
                    h -> h.spawn(100, which == 1 ? value : 0, which == 2 ? value : 0, which == 3 ? value : 0,
                            which == 4 ? value : 1));
        }
        for (int value = least; value <= most; value++) {
            Spritehall hall = new Spritehall();
            checks.due("spawn with " + value, 100, spawnWith(hall, which, value));
        }
    }

    private static void spawnKeepsWhatIsGiven() {
        for (int cell = 0; cell <= 9; cell++) {
            for (int way = -1; way <= 1; way++) {
                for (int lives = 1; lives <= 9; lives++) {
                    Spritehall hall = new Spritehall();
                    hall.spawn(NONE, cell, way, 1, lives);
                    checks.due("cell", cell, hall.cell(100));
                    checks.due("lives", lives, hall.lives(100));
                    checks.due("way, by the sum", cell + 10 * lives + 100 * (way + 1), hall.sum());
                }
            }
        }
        for (int pair = 0; pair < 4; pair++) {
            Spritehall hall = new Spritehall();
            Halls.root(hall, 0, pair / 2, 9);
            Halls.root(hall, 0, pair % 2, 9);
            hall.frame(0);
            checks.due("sides " + pair / 2 + " and " + pair % 2, pair / 2 == pair % 2 ? 9 : 8, hall.lives(100));
        }
    }

    private static void spawnTellsItsHandle() {
        Spritehall hall = new Spritehall();
        for (int i = 0; i < 40; i++) {
            // Three rounds through the 12 slots, each swept for the next, and four more.
            int handle = Halls.root(hall);
            checks.due("the handle of actor " + i, 100 * (i / 12 + 1) + i % 12, handle);
            checks.due("it names that one", i, hall.number(handle));
            hall.unroot(handle);
        }
    }

    private static void spawnWithSeveralWrong() {
        for (int wrong = 1; wrong < 16; wrong++) {
            int cell = (wrong & 1) == 0 ? 9 : 10;
            int way = (wrong & 2) == 0 ? -1 : -2;
            int side = (wrong & 4) == 0 ? 1 : 2;
            int lives = (wrong & 8) == 0 ? 1 : 0;
            String told = "spawn(NONE, " + cell + ", " + way + ", " + side + ", " + lives + ")";
            checks.dueThrow(told, Checks.ARGUMENT, Spritehall::new, h -> h.spawn(NONE, cell, way, side, lives));
        }
    }

    private static void noSuchOwner() {
        for (int handle : Halls.neverHandles()) {
            if (handle != NONE) {
                checks.dueThrow("in an empty hall, " + handle, Checks.OUT, Spritehall::new, h -> Halls.child(h, handle));
                checks.dueThrow("owner " + handle, Checks.OUT, ActorEdgesTest::oneOfEachKind,
                        h -> Halls.child(h, handle));
            }
        }
        for (int handle : new int[] {100, 101, 103, 104, 201, 300}) {
            checks.dueThrow("an owner that is swept, lost, fallen or to come, " + handle, Checks.OUT,
                    ActorEdgesTest::oneOfEachKind, h -> Halls.child(h, handle));
        }
    }

    private static void spawnWithEightHeld() {
        Spritehall seven = Halls.held(7);
        checks.due("an eighth", 107, Halls.root(seven));
        checks.dueThrow("a ninth", Checks.STATE, seven, () -> Halls.root(seven));
        Spritehall linked = Halls.threeLinks();
        for (int i = 0; i < 3; i++) {
            Halls.child(linked, 101);
        }
        checks.due("an eighth of one tree", 107, Halls.child(linked, 102));
        checks.dueThrow("a ninth of one tree", Checks.STATE, linked, () -> Halls.child(linked, 103));
        checks.dueThrow("a ninth as a root", Checks.STATE, linked, () -> Halls.root(linked));
        checks.dueThrow("a ninth in full slots", Checks.STATE, Halls::eightHeldInFullSlots, Halls::root);
    }

    private static void spawnOfAFortyFirst() {
        Spritehall hall = Halls.lost(39);
        int last = Halls.root(hall);
        checks.due("a 40th", 39, hall.number(last));
        checks.dueThrow("a 41st", Checks.STATE, hall, () -> Halls.root(hall));
        checks.dueThrow("a 41st with an owner", Checks.STATE, hall, () -> Halls.child(hall, last));
        Spritehall swept = Halls.lost(40);
        swept.sweep();
        checks.dueThrow("a 41st though all is swept", Checks.STATE, swept, () -> Halls.root(swept));
    }

    private static void spawnByThreeLinks() {
        Spritehall hall = Halls.threeLinks();
        checks.dueThrow("a fourth child", Checks.STATE, hall, () -> Halls.child(hall, 100));
        checks.due("a child of a child", 104, Halls.child(hall, 103));
        checks.due("a root", 105, Halls.root(hall));
        hall.untie(100, 0);
        checks.due("a third child again", 106, Halls.child(hall, 100));
        Spritehall weak = Halls.held(4);
        for (int i = 1; i <= 3; i++) {
            weak.tie(100, 100 + i, WEAK);
            weak.unroot(100 + i);
        }
        checks.dueThrow("three weak links to lost ones", Checks.STATE, weak, () -> Halls.child(weak, 100));
    }

    // ---- promises 3 to 5

    private static void rootNoMore() {
        Spritehall hall = Halls.held(2);
        hall.tie(101, 100, WEAK);
        hall.unroot(100);
        checks.due("no root, and no link that holds it", false, hall.isHeld(100));
        checks.due("the other root stays one", 0, hall.unroot(101));
        Spritehall kept = Halls.held(2);
        kept.tie(101, 100, KEPT);
        kept.unroot(100);
        checks.due("held by the link alone", 1, kept.untie(101, 0));
    }

    private static void unrootCounts() {
        Spritehall hall = Halls.held(8);
        for (int i = 0; i < 8; i++) {
            checks.due("unroot " + i, 7 - i, hall.unroot(100 + i));
        }
        Spritehall tree = Halls.threeLinks();
        Halls.root(tree);
        checks.due("a root that kept three", 1, tree.unroot(100));
        Spritehall kept = Halls.held(2);
        kept.tie(100, 101, KEPT);
        checks.due("one that is kept", 2, kept.unroot(101));
    }

    private static void unrootOfNoRoot() {
        Spritehall hall = Halls.threeLinks();
        checks.dueThrow("a child", Checks.STATE, hall, () -> hall.unroot(101));
        Spritehall kept = Halls.held(2);
        kept.tie(100, 101, COUNTED);
        kept.unroot(101);
        checks.dueThrow("a second time", Checks.STATE, kept, () -> kept.unroot(101));
        kept.unroot(100);
        checks.dueThrow("it is lost", Checks.OUT, kept, () -> kept.unroot(101));
    }

    private static void tieBehindOthers() {
        Spritehall hall = Halls.held(3);
        int child = Halls.child(hall, 100);
        hall.tie(100, 102, KEPT);
        hall.tie(100, 101, KEPT);
        checks.due("the child's", child, hall.linkAt(100, 0));
        checks.due("the next", 102, hall.linkAt(100, 1));
        checks.due("the last", 101, hall.linkAt(100, 2));
    }

    private static void severalToTheSame() {
        Spritehall hall = Halls.held(2);
        for (int i = 1; i <= 3; i++) {
            checks.due("link " + i + " to the same one", i, hall.tie(100, 101, COUNTED));
        }
        checks.due("all count", 3, hall.count(101));
        for (int place = 0; place < 3; place++) {
            checks.due("place " + place, 101, hall.linkAt(100, place));
        }
        hall.unroot(101);
        checks.due("two are left", 2, hall.untie(100, 1));
        checks.due("one is left", 2, hall.untie(100, 1));
        checks.due("none is left", 1, hall.untie(100, 0));
    }

    private static void kindsAtTheEdge() {
        for (int kind : new int[] {-1, 3, -2, 4, MIN, MAX}) {
            checks.dueThrow("kind " + kind, Checks.OUT, () -> Halls.held(2), h -> h.tie(100, 101, kind));
        }
        for (int kind = 0; kind <= 2; kind++) {
            Spritehall hall = Halls.held(2);
            checks.due("kind " + kind, 1, hall.tie(100, 101, kind));
            checks.due("count by the kind " + kind, kind == COUNTED ? 1 : 0, hall.count(101));
            checks.due("held by the kind " + kind, kind == WEAK ? 1 : 2, hall.unroot(101));
        }
    }

    private static void tieCounts() {
        Spritehall hall = Halls.held(3);
        checks.due("the first", 1, hall.tie(100, 101, WEAK));
        checks.due("the second", 2, hall.tie(100, 102, WEAK));
        hall.unroot(102);
        checks.due("the third, behind one to a lost actor", 3, hall.tie(100, 101, KEPT));
        checks.due("the first of another one", 1, hall.tie(101, 100, KEPT));
        hall.untie(100, 0);
        checks.due("the third again", 3, hall.tie(100, 101, KEPT));
    }

    private static void bothTheSame() {
        checks.dueThrow("a lone root", Checks.ARGUMENT, () -> Halls.held(1), h -> h.tie(100, 100, KEPT));
        for (int kind = KEPT; kind <= WEAK; kind++) {
            int given = kind;
            checks.dueThrow("kind " + kind, Checks.ARGUMENT, Halls::threeLinks, h -> h.tie(102, 102, given));
        }
    }

    private static void tieOfAFourth() {
        for (int kind = KEPT; kind <= WEAK; kind++) {
            int given = kind;
            checks.dueThrow("kind " + kind, Checks.STATE, Halls::threeLinks, h -> h.tie(100, 101, given));
        }
        Spritehall hall = Halls.threeLinks();
        checks.due("one of another actor", 1, hall.tie(101, 100, WEAK));
        hall.untie(100, 2);
        checks.due("a third again", 3, hall.tie(100, 101, WEAK));
        Spritehall lost = Halls.held(2);
        for (int i = 0; i < 3; i++) {
            lost.tie(100, 101, WEAK);
        }
        lost.unroot(101);
        lost.sweep();
        Halls.root(lost);
        checks.dueThrow("three links to one that is swept", Checks.STATE, lost, () -> lost.tie(100, 201, KEPT));
    }

    private static void movesUp() {
        for (int away = 0; away < 3; away++) {
            Spritehall hall = Halls.threeLinks();
            int[] left = new int[2];
            int next = 0;
            for (int i = 0; i < 3; i++) {
                if (i != away) {
                    left[next] = 101 + i;
                    next++;
                }
            }
            hall.untie(100, away);
            checks.due("place 0 without " + away, left[0], hall.linkAt(100, 0));
            checks.due("place 1 without " + away, left[1], hall.linkAt(100, 1));
            checks.dueThrow("place 2 without " + away, Checks.OUT, hall, () -> hall.linkAt(100, 2));
            checks.due("it is let go", false, hall.isHeld(101 + away));
        }
    }

    private static void untieCounts() {
        Spritehall hall = Halls.threeLinks();
        checks.due("one of three", 3, hall.untie(100, 2));
        checks.due("one of two", 2, hall.untie(100, 1));
        checks.due("the last one", 1, hall.untie(100, 0));
        Spritehall chain = Halls.held(1);
        Halls.child(chain, Halls.child(chain, Halls.child(chain, 100)));
        checks.due("a chain of three", 1, chain.untie(100, 0));
        Spritehall weak = Halls.held(2);
        weak.tie(100, 101, WEAK);
        checks.due("a weak one to a root", 2, weak.untie(100, 0));
        Spritehall fallen = new Spritehall();
        Halls.root(fallen, 9, 0, 1);
        Halls.root(fallen, 0, 0, 1);
        Halls.root(fallen, 0, 1, 2);
        fallen.tie(100, 101, KEPT);
        fallen.frame(0);
        checks.due("one to a fallen actor", 2, fallen.untie(100, 0));
    }

    // ---- promises 6 to 12

    private static void isHeldOfAnyNumber() {
        for (Spritehall hall : new Spritehall[] {new Spritehall(), oneOfEachKind()}) {
            for (int handle : Halls.neverHandles()) {
                checks.due("isHeld " + handle, false, hall.isHeld(handle));
            }
        }
        Spritehall hall = oneOfEachKind();
        for (int handle = 90; handle < 320; handle++) {
            checks.due("isHeld " + handle, handle == 102 || handle == 200, hall.isHeld(handle));
        }
    }

    private static void heldFromNoneToEight() {
        for (int many = 0; many <= 8; many++) {
            checks.due("roots", many, Halls.held(many).held());
        }
        checks.due("a tree", 4, Halls.threeLinks().held());
        checks.due("lost ones", 0, Halls.lost(12).held());
        checks.due("8 beside lost ones", 8, Halls.eightHeldInFullSlots().held());
    }

    private static void numberInATakenSlot() {
        Spritehall hall = Halls.lost(39);
        int last = Halls.root(hall);
        checks.due("the last of all, in the slot 3", 403, last);
        checks.due("its number", 39, hall.number(last));
    }

    private static void cellsToTheEnds() {
        for (int cell = 0; cell <= 9; cell++) {
            checks.due("a root's", cell, oneIn(cell).cell(100));
            checks.due("a linked one's", 9 - cell, oneIn(cell).cell(101));
        }
    }

    private static Spritehall oneIn(int cell) {
        Spritehall hall = new Spritehall();
        Halls.root(hall, cell, 0, 1);
        hall.spawn(100, 9 - cell, 0, 0, 1);
        return hall;
    }

    private static void livesToTheLast() {
        Spritehall hall = new Spritehall();
        Halls.root(hall, 0, 0, 9);
        Halls.root(hall, 0, 1, 9);
        for (int lives = 9; lives > 0; lives--) {
            checks.due("lives", lives, hall.lives(100));
            hall.frame(0);
        }
        checks.dueThrow("no lives", Checks.OUT, hall, () -> hall.lives(100));
    }

    private static void linkToOneNotHeld() {
        Spritehall hall = Halls.held(2);
        hall.tie(100, 101, WEAK);
        checks.due("held", 101, hall.linkAt(100, 0));
        hall.unroot(101);
        checks.due("lost, and in its slot", NONE, hall.linkAt(100, 0));
        hall.sweep();
        checks.due("swept", NONE, hall.linkAt(100, 0));
        Halls.root(hall);
        checks.due("its slot is taken again", NONE, hall.linkAt(100, 0));

        Spritehall fallen = new Spritehall();
        Halls.root(fallen, 9, 0, 1);
        Halls.root(fallen, 0, 0, 1);
        Halls.root(fallen, 0, 1, 1);
        fallen.tie(100, 101, KEPT);
        fallen.frame(0);
        checks.due("fallen", NONE, fallen.linkAt(100, 0));
    }

    private static void countsCountedAlone() {
        Spritehall hall = Halls.held(8);
        checks.due("none", 0, hall.count(107));
        for (int i = 0; i < 7; i++) {
            for (int links = 1; links <= 3; links++) {
                hall.tie(100 + i, 107, COUNTED);
                checks.due("the links so far", 3 * i + links, hall.count(107));
            }
        }
        checks.due("the most that can be", 21, hall.count(107));
        checks.due("those lead to 107 alone", 0, hall.count(100));
        Spritehall other = Halls.threeLinks();
        other.tie(101, 102, WEAK);
        other.tie(101, 102, KEPT);
        checks.due("kept and weak ones", 0, other.count(102));
    }

    private static void countsOfTheHeldAlone() {
        Spritehall hall = Halls.held(3);
        hall.tie(101, 100, COUNTED);
        hall.tie(102, 100, COUNTED);
        hall.tie(102, 100, COUNTED);
        checks.due("of two", 3, hall.count(100));
        hall.unroot(102);
        checks.due("of one that is held", 1, hall.count(100));
        hall.sweep();
        checks.due("behind a sweep", 1, hall.count(100));
        Halls.root(hall);
        checks.due("its slot is taken again", 1, hall.count(100));
    }
}
