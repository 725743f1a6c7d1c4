/** Halls that stand at an edge, and the steps that lead there. */
final class Halls {
    static final int NONE = Spritehall.NONE;
    static final int KEPT = Spritehall.KEPT, COUNTED = Spritehall.COUNTED, WEAK = Spritehall.WEAK;
    static final int MIN = Integer.MIN_VALUE, MAX = Integer.MAX_VALUE;

    /** No handle in any hall: there is no slot 12, no age 0, and no age beyond 40. */
    private static final int[] NEVER_HANDLES = {-1, -2, 0, 1, 11, 99, 112, 199, 4100, MIN, MAX};

    private Halls() {
    }

    static int[] neverHandles() {
        return NEVER_HANDLES.clone();
    }

    static int root(Spritehall hall) {
        return root(hall, 0, 0, 9);
    }

    static int root(Spritehall hall, int cell, int side, int lives) {
        return hall.spawn(NONE, cell, 0, side, lives);
    }

    static int child(Spritehall hall, int owner) {
        return hall.spawn(owner, 0, 0, 0, 9);
    }

    static void run(Spritehall hall, int frames) {
        for (int i = 0; i < frames; i++) {
            hall.frame(0);
        }
    }

    /** Each of these fills a slot, and is not held. */
    static void addLost(Spritehall hall, int many) {
        for (int i = 0; i < many; i++) {
            hall.unroot(root(hall));
        }
    }

    /** Roots alone, with the handles from 100 on. */
    static Spritehall held(int many) {
        Spritehall hall = new Spritehall();
        for (int i = 0; i < many; i++) {
            root(hall);
        }
        return hall;
    }

    /** So many fill the slots from 0 on, and nobody is held. */
    static Spritehall lost(int many) {
        Spritehall hall = new Spritehall();
        addLost(hall, many);
        return hall;
    }

    /** The roots 100 to 107, and lost ones in the other four slots. */
    static Spritehall eightHeldInFullSlots() {
        Spritehall hall = lost(4);
        for (int i = 0; i < 8; i++) {
            root(hall);
        }
        return hall;
    }

    /** The root 100 with links to 101, 102 and 103, which it keeps. */
    static Spritehall threeLinks() {
        Spritehall hall = held(1);
        for (int i = 0; i < 3; i++) {
            child(hall, 100);
        }
        return hall;
    }
}
