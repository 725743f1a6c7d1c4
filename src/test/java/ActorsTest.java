/** Promises 1 to 12: actors, their links, and who is held. */
public final class ActorsTest {
    private static final int NONE = Spritehall.NONE;
    private static final int KEPT = Spritehall.KEPT, COUNTED = Spritehall.COUNTED, WEAK = Spritehall.WEAK;
    private static final Checks checks = new Checks();

    public static void main(String[] args) {
        constants();
        newObject();
        spawnOfRoots();
        spawnOfLinked();
        spawnOutOfRange();
        spawnTooMany();
        spawnThrowsInOrder();
        spawnInFullSlots();
        unroot();
        unrootKeepsLinked();
        tie();
        tieThrows();
        untie();
        untieThrows();
        ringsAreNotHeld();
        heldByChains();
        isHeld();
        held();
        numbers();
        cells();
        lives();
        fallenForGood();
        linkAt();
        count();
        checks.end();
    }

    private static int root(Spritehall hall, int cell, int side, int lives) {
        return hall.spawn(NONE, cell, 0, side, lives);
    }

    private static int child(Spritehall hall, int owner) {
        return hall.spawn(owner, 0, 0, 0, 1);
    }

    /** The handles 100, 101, 102 and 104 are held, each as a root; 103 is not held any more. */
    private static Spritehall fourAndOneLost() {
        Spritehall hall = new Spritehall();
        for (int i = 0; i < 5; i++) {
            root(hall, i, 0, 1 + i);
        }
        hall.unroot(103);
        return hall;
    }

    /** 100 has the links to 101, 102 and 104. */
    private static Spritehall threeLinks() {
        Spritehall hall = fourAndOneLost();
        hall.tie(100, 101, KEPT);
        hall.tie(100, 102, COUNTED);
        hall.tie(100, 104, WEAK);
        return hall;
    }

    private static int[] noHandles() {
        return new int[] {NONE, 0, 3, 99, 103, 105, 200, Integer.MIN_VALUE, Integer.MAX_VALUE};
    }

    private static void constants() {
        checks.due("NONE", -1, NONE);
        checks.due("KEPT", 0, KEPT);
        checks.due("COUNTED", 1, COUNTED);
        checks.due("WEAK", 2, WEAK);
    }

    private static void newObject() {
        Spritehall hall = new Spritehall();
        checks.due("new: held", 0, hall.held());
        checks.due("new: frames", 0, hall.frames());
        checks.due("new: free", 12, hall.free());
        checks.due("new: sum", 0, hall.sum());
        checks.due("new: sumByReplay", 0, hall.sumByReplay());
        checks.due("new: heard", 0, hall.heard());
        for (int slot = 0; slot < 12; slot++) {
            checks.due("new: age " + slot, 0, hall.age(slot));
            checks.due("new: isHeld " + slot, false, hall.isHeld(slot));
            checks.due("new: isHeld " + (100 + slot), false, hall.isHeld(100 + slot));
        }
        checks.due("new: the ear", 0, hall.listen(5));
        checks.due("new: sweep", 0, hall.sweep());
        // Two halls have nothing in common.
        root(hall, 0, 0, 1);
        checks.due("another new: held", 0, new Spritehall().held());
    }

    private static void spawnOfRoots() {
        Spritehall hall = new Spritehall();
        for (int i = 0; i < 8; i++) {
            checks.due("root " + i, 100 + i, root(hall, i, 0, 1));
            checks.due("held behind root " + i, i + 1, hall.held());
            checks.due("free behind root " + i, 11 - i, hall.free());
            checks.due("age of slot " + i, 1, hall.age(i));
        }
        // All the edges of the ranges.
        Spritehall edges = new Spritehall();
        checks.due("least", 100, edges.spawn(NONE, 0, -1, 0, 1));
        checks.due("most", 101, edges.spawn(NONE, 9, 1, 1, 9));
        checks.due("sum of least and most", 10 + 2 * (9 + 90 + 200), edges.sum());
    }

    private static void spawnOfLinked() {
        Spritehall hall = new Spritehall();
        int root = root(hall, 0, 0, 1);
        int other = root(hall, 0, 0, 1);
        hall.tie(root, other, WEAK);
        int first = child(hall, root);
        int second = child(hall, root);
        checks.due("the link ahead", other, hall.linkAt(root, 0));
        checks.due("the first of the owner", first, hall.linkAt(root, 1));
        checks.due("the second of the owner", second, hall.linkAt(root, 2));
        checks.due("a keeping link is not COUNTED", 0, hall.count(first));
        checks.dueThrow("a linked one is no root", Checks.STATE, hall, () -> hall.unroot(first));
        hall.unroot(root);
        checks.due("without its owner", false, hall.isHeld(first));
        checks.due("a root without any", true, hall.isHeld(other));
    }

    private static void spawnOutOfRange() {
        int[][] wrong = {
            {-1, 0, 0, 1}, {10, 0, 0, 1}, {0, -2, 0, 1}, {0, 2, 0, 1}, {0, 0, -1, 1}, {0, 0, 2, 1},
            {0, 0, 0, 0}, {0, 0, 0, 10}, {0, 0, 0, -1},
            {Integer.MIN_VALUE, 0, 0, 1}, {Integer.MAX_VALUE, 0, 0, 1}, {0, Integer.MIN_VALUE, 0, 1},
            {0, Integer.MAX_VALUE, 0, 1}, {0, 0, Integer.MIN_VALUE, 1}, {0, 0, Integer.MAX_VALUE, 1},
            {0, 0, 0, Integer.MIN_VALUE}, {0, 0, 0, Integer.MAX_VALUE},
        };
        for (int[] w : wrong) {
            Spritehall hall = new Spritehall();
            String call = "spawn(NONE, " + w[0] + ", " + w[1] + ", " + w[2] + ", " + w[3] + ")";
            checks.dueThrow(call, Checks.ARGUMENT, hall, () -> hall.spawn(NONE, w[0], w[1], w[2], w[3]));
            checks.due("the first behind " + call, 100, root(hall, 0, 0, 1));
        }
        for (int owner : new int[] {-2, 0, 99, 103, 105, 200, 1200, Integer.MIN_VALUE, Integer.MAX_VALUE}) {
            checks.dueThrow("no owner " + owner, Checks.OUT, ActorsTest::fourAndOneLost, hall -> child(hall, owner));
        }
    }

    /** 100 has the links to 101, 102 and 103, and 103 one to 104; all are held, with three roots more. */
    private static Spritehall eightHeld() {
        Spritehall hall = new Spritehall();
        root(hall, 0, 0, 1);
        child(hall, 100);
        child(hall, 100);
        child(hall, 100);
        child(hall, 103);
        for (int i = 0; i < 3; i++) {
            root(hall, 0, 0, 1);
        }
        return hall;
    }

    private static void spawnTooMany() {
        checks.dueThrow("an owner with 3 links", Checks.STATE, ActorsTest::threeLinks, h -> child(h, 100));
        checks.dueThrow("a ninth root", Checks.STATE, ActorsTest::eightHeld, h -> root(h, 0, 0, 1));
        checks.dueThrow("a ninth linked one", Checks.STATE, ActorsTest::eightHeld, h -> child(h, 104));
        Spritehall hall = eightHeld();
        hall.unroot(107);
        checks.due("an eighth again", 108, child(hall, 104));
        checks.due("eight are held", 8, hall.held());

        Spritehall many = new Spritehall();
        for (int i = 0; i < 40; i++) {
            int handle = root(many, 0, 0, 1);
            checks.due("number " + i, i, many.number(handle));
            if (i < 39) {
                many.unroot(handle);
            }
        }
        checks.dueThrow("actor 40", Checks.STATE, many, () -> root(many, 0, 0, 1));
    }

    private static void spawnThrowsInOrder() {
        checks.dueThrow("3 links, cell 10", Checks.ARGUMENT, ActorsTest::threeLinks, h -> h.spawn(100, 10, 0, 0, 1));
        checks.dueThrow("no owner, lives 0, 8 held", Checks.OUT, ActorsTest::eightHeld, h -> h.spawn(999, 0, 0, 0, 0));
        checks.dueThrow("no owner, 8 held", Checks.OUT, ActorsTest::eightHeld, h -> child(h, 999));
        checks.dueThrow("lives 0, 8 held", Checks.ARGUMENT, ActorsTest::eightHeld, h -> h.spawn(NONE, 0, 0, 0, 0));
    }

    private static void spawnInFullSlots() {
        Spritehall hall = new Spritehall();
        int stays = root(hall, 1, 0, 1);
        for (int slot = 1; slot < 12; slot++) {
            checks.due("slot " + slot, 100 + slot, root(hall, 0, 0, 1));
            hall.unroot(100 + slot);
        }
        checks.due("all are full", 0, hall.free());
        checks.due("the lowest behind a sweep", 201, root(hall, 2, 0, 1));
        checks.due("what is free then", 10, hall.free());
        checks.due("it stays", true, hall.isHeld(stays));
        checks.due("age 0", 1, hall.age(0));
        checks.due("age 1", 2, hall.age(1));
        checks.due("age 2", 1, hall.age(2));
        checks.due("the old handle", false, hall.isHeld(101));
        checks.due("its number", 12, hall.number(201));
        // With one slot left free nothing is swept.
        for (int slot = 2; slot < 11; slot++) {
            checks.due("again " + slot, 200 + slot, root(hall, 0, 0, 1));
            hall.unroot(200 + slot);
        }
        checks.due("one is free", 1, hall.free());
        checks.due("that one", 211, root(hall, 0, 0, 1));
        checks.due("none is free", 0, hall.free());
    }

    private static void unroot() {
        Spritehall hall = new Spritehall();
        int a = root(hall, 0, 0, 1);
        int b = root(hall, 0, 0, 1);
        checks.due("unroot b", 1, hall.unroot(b));
        checks.due("b is not held", false, hall.isHeld(b));
        checks.dueThrow("unroot b again", Checks.OUT, hall, () -> hall.unroot(b));
        for (int none : noHandles()) {
            checks.dueThrow("unroot " + none, Checks.OUT, ActorsTest::fourAndOneLost, h -> h.unroot(none));
        }
        checks.due("unroot a", 0, hall.unroot(a));
        checks.due("slots stay filled", 10, hall.free());
    }

    private static void unrootKeepsLinked() {
        for (int kind = KEPT; kind <= WEAK; kind++) {
            Spritehall hall = new Spritehall();
            int a = root(hall, 0, 0, 1);
            int b = root(hall, 0, 0, 1);
            hall.tie(a, b, kind);
            int due = kind == WEAK ? 1 : 2;
            checks.due("unroot a linked one, kind " + kind, due, hall.unroot(b));
            checks.due("it is held, kind " + kind, kind != WEAK, hall.isHeld(b));
            if (kind != WEAK) {
                checks.dueThrow("unroot it again", Checks.STATE, hall, () -> hall.unroot(b));
                checks.due("without the root too", 0, hall.unroot(a));
            }
        }
    }

    private static void tie() {
        Spritehall hall = new Spritehall();
        int a = root(hall, 0, 0, 1);
        int b = root(hall, 0, 0, 1);
        int c = root(hall, 0, 0, 1);
        checks.due("first", 1, hall.tie(a, b, KEPT));
        checks.due("second", 2, hall.tie(a, c, COUNTED));
        checks.due("third, to the same one", 3, hall.tie(a, b, WEAK));
        checks.due("links of another one", 1, hall.tie(b, a, COUNTED));
        checks.due("place 0", b, hall.linkAt(a, 0));
        checks.due("place 1", c, hall.linkAt(a, 1));
        checks.due("place 2", b, hall.linkAt(a, 2));
        checks.due("held stays", 3, hall.held());
    }

    private static void tieThrows() {
        for (int none : noHandles()) {
            checks.dueThrow("no actor " + none, Checks.OUT, ActorsTest::fourAndOneLost, h -> h.tie(none, 100, KEPT));
            checks.dueThrow("no other " + none, Checks.OUT, ActorsTest::fourAndOneLost, h -> h.tie(100, none, KEPT));
            checks.dueThrow("neither " + none, Checks.OUT, ActorsTest::fourAndOneLost, h -> h.tie(none, none, KEPT));
        }
        for (int kind : new int[] {-1, 3, Integer.MIN_VALUE, Integer.MAX_VALUE}) {
            checks.dueThrow("kind " + kind, Checks.OUT, ActorsTest::fourAndOneLost, h -> h.tie(100, 101, kind));
            checks.dueThrow("the same, kind " + kind, Checks.OUT, ActorsTest::fourAndOneLost, h -> h.tie(100, 100, kind));
        }
        checks.dueThrow("the same", Checks.ARGUMENT, ActorsTest::fourAndOneLost, h -> h.tie(100, 100, WEAK));
        checks.dueThrow("3 links", Checks.STATE, ActorsTest::threeLinks, h -> h.tie(100, 101, WEAK));
        checks.dueThrow("3 links, the same", Checks.ARGUMENT, ActorsTest::threeLinks, h -> h.tie(100, 100, KEPT));
        checks.dueThrow("3 links, no kind", Checks.OUT, ActorsTest::threeLinks, h -> h.tie(100, 101, 3));
        checks.dueThrow("3 links, no other", Checks.OUT, ActorsTest::threeLinks, h -> h.tie(100, 103, KEPT));
        // A link to one that is not held any more is a link still.
        Spritehall hall = threeLinks();
        hall.unroot(104);
        checks.dueThrow("3 links, one to NONE", Checks.STATE, hall, () -> hall.tie(100, 101, KEPT));
    }

    private static void untieThrows() {
        for (int none : noHandles()) {
            checks.dueThrow("untie of " + none, Checks.OUT, ActorsTest::threeLinks, h -> h.untie(none, 0));
        }
        for (int place : new int[] {-1, 3, 4, Integer.MIN_VALUE, Integer.MAX_VALUE}) {
            checks.dueThrow("untie at " + place, Checks.OUT, ActorsTest::threeLinks, h -> h.untie(100, place));
        }
        checks.dueThrow("untie without links", Checks.OUT, ActorsTest::threeLinks, h -> h.untie(101, 0));
    }

    private static void untie() {
        Spritehall hall = new Spritehall();
        int a = root(hall, 0, 0, 1);
        int b = child(hall, a);
        int c = child(hall, a);
        int d = child(hall, a);
        checks.due("the middle one", 3, hall.untie(a, 1));
        checks.due("c is let go", false, hall.isHeld(c));
        checks.due("b stays at 0", b, hall.linkAt(a, 0));
        checks.due("d moved up to 1", d, hall.linkAt(a, 1));
        checks.dueThrow("place 2 is gone", Checks.OUT, hall, () -> hall.untie(a, 2));
        checks.due("a new link stands behind", 3, hall.tie(a, b, COUNTED));
        checks.due("two to the same one", b, hall.linkAt(a, 2));
        checks.due("one of two links", 3, hall.untie(a, 0));
        checks.due("the other holds", true, hall.isHeld(b));
        checks.due("its last link", 2, hall.untie(a, 1));
        checks.due("the last of all", 1, hall.untie(a, 0));
        checks.dueThrow("nothing left", Checks.OUT, hall, () -> hall.untie(a, 0));
        checks.dueThrow("one that is let go", Checks.OUT, hall, () -> hall.untie(c, 0));
    }

    private static void ringsAreNotHeld() {
        Spritehall hall = new Spritehall();
        int a = root(hall, 0, 0, 1);
        int b = child(hall, a);
        int c = child(hall, b);
        hall.tie(c, b, KEPT);
        hall.tie(c, a, COUNTED);
        checks.due("a ring behind a root", 3, hall.held());
        checks.due("two that only hold one another", 1, hall.untie(a, 0));
        int d = child(hall, a);
        hall.tie(d, a, KEPT);
        checks.due("a root in a ring", 0, hall.unroot(a));
    }

    private static void heldByChains() {
        // A chain against the order of the numbers needs more than one pass.
        Spritehall hall = new Spritehall();
        int[] all = new int[8];
        for (int i = 0; i < 8; i++) {
            all[i] = root(hall, 0, 0, 1);
        }
        for (int i = 1; i < 8; i++) {
            hall.tie(all[i], all[i - 1], i % 2 == 0 ? KEPT : COUNTED);
        }
        for (int i = 0; i < 7; i++) {
            checks.due("unroot " + i, 8, hall.unroot(all[i]));
        }
        checks.due("cut in the middle", 4, hall.untie(all[4], 0));
        checks.due("ahead of the cut", false, hall.isHeld(all[3]));
        checks.due("behind the cut", true, hall.isHeld(all[4]));
        checks.due("the end of the chain", 0, hall.unroot(all[7]));
    }

    private static void isHeld() {
        Spritehall hall = new Spritehall();
        int a = root(hall, 0, 0, 1);
        checks.due("a", true, hall.isHeld(a));
        for (int handle : new int[] {-1, 0, 1, -100, 99, 101, 112, 200, 1000, Integer.MIN_VALUE, Integer.MAX_VALUE}) {
            checks.due("isHeld " + handle, false, hall.isHeld(handle));
        }
        hall.unroot(a);
        checks.due("a behind its fall", false, hall.isHeld(a));
        hall.sweep();
        int b = root(hall, 0, 0, 1);
        checks.due("the next in its slot", 200, b);
        checks.due("a in b's slot", false, hall.isHeld(a));
        checks.due("b", true, hall.isHeld(b));
    }

    private static void held() {
        Spritehall hall = new Spritehall();
        int a = root(hall, 3, 0, 1);
        root(hall, 3, 1, 2);
        checks.due("two", 2, hall.held());
        hall.frame(0);
        checks.due("one has fallen", 1, hall.held());
        checks.due("that one", false, hall.isHeld(a));
    }

    private static void numbers() {
        Spritehall hall = new Spritehall();
        int a = root(hall, 0, 0, 1);
        int b = root(hall, 0, 0, 1);
        checks.due("number of a", 0, hall.number(a));
        checks.due("number of b", 1, hall.number(b));
        hall.unroot(a);
        hall.sweep();
        int c = root(hall, 0, 0, 1);
        checks.due("c has a's slot", 200, c);
        checks.due("number of c", 2, hall.number(c));
        for (int none : noHandles()) {
            checks.dueThrow("number " + none, Checks.OUT, ActorsTest::threeLinks, h -> h.number(none));
        }
    }

    private static void cells() {
        Spritehall hall = new Spritehall();
        for (int cell = 0; cell < 8; cell++) {
            checks.due("cell " + cell, cell, hall.cell(root(hall, cell, 0, 1)));
        }
        for (int none : noHandles()) {
            checks.dueThrow("cell " + none, Checks.OUT, ActorsTest::threeLinks, h -> h.cell(none));
        }
    }

    private static void lives() {
        Spritehall hall = new Spritehall();
        for (int lives = 1; lives < 9; lives++) {
            checks.due("lives " + lives, lives, hall.lives(root(hall, 0, 0, lives)));
        }
        for (int none : noHandles()) {
            checks.dueThrow("lives " + none, Checks.OUT, ActorsTest::threeLinks, h -> h.lives(none));
        }
    }

    private static void fallenForGood() {
        Spritehall hall = new Spritehall();
        int root = root(hall, 5, 0, 1);
        int keeper = root(hall, 0, 0, 9);
        hall.tie(keeper, root, KEPT);
        int foe = root(hall, 5, 1, 3);
        int child = hall.spawn(root, 9, 0, 0, 5);
        hall.tie(root, foe, KEPT);
        hall.frame(0);
        checks.due("a fallen root with a link to it", false, hall.isHeld(root));
        checks.due("what only it held", false, hall.isHeld(child));
        checks.due("the link to it stays, to NONE", NONE, hall.linkAt(keeper, 0));
        checks.due("the foe is hit too", 2, hall.lives(foe));
        checks.due("two are held", 2, hall.held());
        checks.dueThrow("unroot the fallen", Checks.OUT, hall, () -> hall.unroot(root));
        checks.dueThrow("lives of the fallen", Checks.OUT, hall, () -> hall.lives(root));
        checks.dueThrow("tie to the fallen", Checks.OUT, hall, () -> hall.tie(keeper, root, KEPT));
        checks.dueThrow("spawn for the fallen", Checks.OUT, hall, () -> child(hall, root));
        hall.frame(0);
        checks.due("nobody is left to hit the foe", 2, hall.lives(foe));
        checks.due("untie the fallen", 2, hall.untie(keeper, 0));
    }

    private static void linkAt() {
        Spritehall hall = new Spritehall();
        int a = root(hall, 0, 0, 1);
        int b = root(hall, 0, 0, 1);
        hall.tie(a, b, WEAK);
        checks.due("to b", b, hall.linkAt(a, 0));
        hall.unroot(b);
        checks.due("b is not held", NONE, hall.linkAt(a, 0));
        hall.sweep();
        int c = root(hall, 0, 0, 1);
        checks.due("c is in b's slot", 201, c);
        checks.due("a link never leads to c", NONE, hall.linkAt(a, 0));
        checks.due("it is a link still", 2, hall.tie(a, c, WEAK));
        checks.due("place 1", c, hall.linkAt(a, 1));
        for (int none : noHandles()) {
            checks.dueThrow("linkAt of " + none, Checks.OUT, ActorsTest::threeLinks, h -> h.linkAt(none, 0));
        }
        for (int place : new int[] {-1, 3, 4, Integer.MIN_VALUE, Integer.MAX_VALUE}) {
            checks.dueThrow("linkAt " + place, Checks.OUT, ActorsTest::threeLinks, h -> h.linkAt(100, place));
        }
        checks.dueThrow("place 2 of two links", Checks.OUT, hall, () -> hall.linkAt(a, 2));
        checks.dueThrow("linkAt without links", Checks.OUT, hall, () -> hall.linkAt(c, 0));
        hall.untie(a, 0);
        checks.due("c moved up", c, hall.linkAt(a, 0));
    }

    private static void count() {
        Spritehall hall = new Spritehall();
        int a = root(hall, 0, 0, 1);
        int b = root(hall, 0, 0, 1);
        int c = root(hall, 0, 0, 1);
        checks.due("none", 0, hall.count(a));
        hall.tie(b, a, COUNTED);
        hall.tie(b, a, COUNTED);
        hall.tie(b, a, KEPT);
        hall.tie(c, a, COUNTED);
        hall.tie(c, a, WEAK);
        hall.tie(c, b, COUNTED);
        hall.tie(a, c, KEPT);
        checks.due("two of b, one of c", 3, hall.count(a));
        checks.due("one of c", 1, hall.count(b));
        checks.due("only a kept one", 0, hall.count(c));
        hall.tie(a, c, COUNTED);
        checks.due("one of a, the first of all", 1, hall.count(c));
        hall.unroot(b);
        checks.due("b is held by c", 3, hall.count(a));
        hall.untie(c, 2);
        checks.due("b is not held", 1, hall.count(a));
        for (int none : noHandles()) {
            checks.dueThrow("count " + none, Checks.OUT, ActorsTest::threeLinks, h -> h.count(none));
        }
    }
}
