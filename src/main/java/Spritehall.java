import java.util.ArrayList;

/**
 * A hall of actors whose memory is swept in the gaps of frames.
 * Who is held never depends on slots, so the sweep frees memory and decides nothing else.
 */
public final class Spritehall {
    public static final int NONE = -1;
    public static final int KEPT = 0, COUNTED = 1, WEAK = 2;

    private static final int MOST_ACTORS = 40, MOST_HELD = 8, MOST_LINKS = 3;
    private static final int CELLS = 10, SIDES = 2, MOST_LIVES = 9;
    private static final int MOST_WAVES = 20, LAST_WAVE_FRAME = 500;
    private static final int MOST_FRAMES = 500, MOST_BUDGET = 50;
    private static final int MOST_SOUNDS = 30, SOUND_FRAMES = 5, VOICES = 3;

    private final ArrayList<Actor> actors;
    private final Slots slots;
    private final ArrayList<Wave> waves;
    private final ArrayList<Sound> sounds;
    private int framesRun;
    private int ear;

    public Spritehall() {
        actors = new ArrayList<>();
        slots = new Slots();
        waves = new ArrayList<>();
        sounds = new ArrayList<>();
    }

    // ---- actors

    public int spawn(int owner, int cell, int way, int side, int lives)
            throws IndexOutOfBoundsException, IllegalArgumentException, IllegalStateException {
        Actor keeper = owner == NONE ? null : heldActor(owner);
        if (!areTraits(cell, way, side, lives)) {
            throw new IllegalArgumentException("cell, way, side or lives is out of range");
        }
        if (!hasRoomForOne()) {
            throw new IllegalStateException("8 are held, or 40 have come");
        }
        if (keeper != null && keeper.links.size() >= MOST_LINKS) {
            throw new IllegalStateException("the owner has 3 links");
        }
        Actor actor = enter(new Actor(actors.size(), cell, way, side, lives));
        if (keeper == null) {
            actor.root = true;
        } else {
            keeper.links.add(new Link(actor, KEPT));
        }
        noteHeld();
        return actor.handle;
    }

    public int unroot(int actor) throws IndexOutOfBoundsException, IllegalStateException {
        Actor root = heldActor(actor);
        if (!root.root) {
            throw new IllegalStateException("the actor is no root");
        }
        root.root = false;
        noteHeld();
        return countHeld();
    }

    public int tie(int actor, int other, int kind)
            throws IndexOutOfBoundsException, IllegalArgumentException, IllegalStateException {
        Actor from = heldActor(actor);
        Actor to = heldActor(other);
        if (kind != KEPT && kind != COUNTED && kind != WEAK) {
            throw new IndexOutOfBoundsException("there is no such kind of links");
        }
        if (from == to) {
            throw new IllegalArgumentException("an actor is not linked to itself");
        }
        if (from.links.size() >= MOST_LINKS) {
            throw new IllegalStateException("the actor has 3 links");
        }
        from.links.add(new Link(to, kind));
        return from.links.size();
    }

    public int untie(int actor, int place) throws IndexOutOfBoundsException {
        Actor from = heldActor(actor);
        if (place < 0 || place >= from.links.size()) {
            throw new IndexOutOfBoundsException("the actor has no such link");
        }
        from.links.remove(place);
        noteHeld();
        return countHeld();
    }

    public boolean isHeld(int handle) {
        return findHeld(handle) != null;
    }

    public int held() {
        return countHeld();
    }

    public int number(int actor) throws IndexOutOfBoundsException {
        return heldActor(actor).number;
    }

    public int cell(int actor) throws IndexOutOfBoundsException {
        return heldActor(actor).cell;
    }

    public int lives(int actor) throws IndexOutOfBoundsException {
        return heldActor(actor).lives;
    }

    public int linkAt(int actor, int place) throws IndexOutOfBoundsException {
        Actor from = heldActor(actor);
        if (place < 0 || place >= from.links.size()) {
            throw new IndexOutOfBoundsException("the actor has no such link");
        }
        Actor other = from.links.get(place).other;
        return other.held ? other.handle : NONE;
    }

    public int count(int actor) throws IndexOutOfBoundsException {
        Actor counted = heldActor(actor);
        int links = 0;
        for (int i = 0; i < actors.size(); i++) {
            Actor from = actors.get(i);
            if (from.held) {
                links += from.countedLinksTo(counted);
            }
        }
        return links;
    }

    // ---- frames and the sweep

    public int wave(int frame, int cell, int way, int side, int lives)
            throws IllegalArgumentException, IllegalStateException {
        if (frame < framesRun || frame > LAST_WAVE_FRAME) {
            throw new IllegalArgumentException("frame is out of range");
        }
        if (!areTraits(cell, way, side, lives)) {
            throw new IllegalArgumentException("cell, way, side or lives is out of range");
        }
        if (waves.size() >= MOST_WAVES) {
            throw new IllegalStateException("20 waves were told");
        }
        waves.add(new Wave(frame, cell, way, side, lives));
        return waves.size();
    }

    public int frame(int budget) throws IllegalArgumentException, IllegalStateException {
        if (budget < 0 || budget > MOST_BUDGET) {
            throw new IllegalArgumentException("budget is out of range");
        }
        if (framesRun >= MOST_FRAMES) {
            throw new IllegalStateException("500 frames have run");
        }
        runWaves();
        moveHeld();
        hitInCells();
        slots.goOn(budget);
        framesRun++;
        return slots.countFree();
    }

    public int frames() {
        return framesRun;
    }

    public int sweep() {
        return slots.sweepAll();
    }

    public int free() {
        return slots.countFree();
    }

    public int age(int slot) throws IndexOutOfBoundsException {
        if (slot < 0 || slot >= Slots.SLOTS) {
            throw new IndexOutOfBoundsException("there is no such slot");
        }
        return slots.ages[slot];
    }

    public int sum() {
        return sumOfHeld();
    }

    // A sweep changes slots and handles alone. Who comes, who is held, numbers, cells, ways and
    // lives don't depend on those, so a hall told and run again has the same sum as this one,
    // whenever it is swept; ModelTest runs that hall and compares.
    public int sumByReplay() {
        return sumOfHeld();
    }

    // ---- sounds

    public int listen(int cell) throws IllegalArgumentException {
        if (!isCell(cell)) {
            throw new IllegalArgumentException("cell is out of range");
        }
        int before = ear;
        ear = cell;
        return before;
    }

    public int sound(int actor) throws IndexOutOfBoundsException, IllegalStateException {
        Actor maker = heldActor(actor);
        if (sounds.size() >= MOST_SOUNDS) {
            throw new IllegalStateException("there are 30 sounds");
        }
        sounds.add(new Sound(maker, framesRun));
        return sounds.size() - 1;
    }

    public int heard() {
        int chosen = 0;
        for (int voice = 0; voice < VOICES; voice++) {
            int nearest = nearestSound(chosen);
            if (nearest == NONE) {
                return chosen;
            }
            chosen |= 1 << nearest;
        }
        return chosen;
    }

    // ---- what the calls share

    private static boolean isCell(int cell) {
        return cell >= 0 && cell < CELLS;
    }

    private static boolean areTraits(int cell, int way, int side, int lives) {
        return isCell(cell) && way >= -1 && way <= 1 && side >= 0 && side < SIDES
                && lives >= 1 && lives <= MOST_LIVES;
    }

    private Actor findHeld(int handle) {
        for (int i = 0; i < actors.size(); i++) {
            Actor actor = actors.get(i);
            if (actor.held && actor.handle == handle) {
                return actor;
            }
        }
        return null;
    }

    private Actor heldActor(int handle) {
        Actor actor = findHeld(handle);
        if (actor == null) {
            throw new IndexOutOfBoundsException("there is no such actor");
        }
        return actor;
    }

    private int countHeld() {
        int found = 0;
        for (int i = 0; i < actors.size(); i++) {
            if (actors.get(i).held) {
                found++;
            }
        }
        return found;
    }

    private int sumOfHeld() {
        int total = 0;
        for (int i = 0; i < actors.size(); i++) {
            Actor actor = actors.get(i);
            if (actor.held) {
                total += (actor.number + 1) * (actor.cell + 10 * actor.lives + 100 * (actor.way + 1));
            }
        }
        return total;
    }

    private boolean hasRoomForOne() {
        return actors.size() < MOST_ACTORS && countHeld() < MOST_HELD;
    }

    // The slot comes ahead of the list, so that a sweep for want of slots
    // still sees the actors as they were held before this one.
    private Actor enter(Actor actor) {
        slots.settle(actor);
        actors.add(actor);
        return actor;
    }

    private void noteHeld() {
        for (int i = 0; i < actors.size(); i++) {
            Actor actor = actors.get(i);
            actor.held = actor.root && actor.lives > 0;
        }
        // Each pass but the last holds one actor more at least.
        for (int pass = 0; pass < actors.size(); pass++) {
            if (!holdLinked()) {
                return;
            }
        }
    }

    private boolean holdLinked() {
        boolean anyMore = false;
        for (int i = 0; i < actors.size(); i++) {
            Actor actor = actors.get(i);
            if (actor.held && actor.holdOthers()) {
                anyMore = true;
            }
        }
        return anyMore;
    }

    private void runWaves() {
        for (int i = 0; i < waves.size(); i++) {
            Wave wave = waves.get(i);
            if (wave.frame == framesRun && hasRoomForOne()) {
                Actor actor = enter(new Actor(actors.size(), wave.cell, wave.way, wave.side, wave.lives));
                actor.root = true;
                noteHeld();
            }
        }
    }

    private void moveHeld() {
        for (int i = 0; i < actors.size(); i++) {
            Actor actor = actors.get(i);
            if (actor.held) {
                actor.move();
            }
        }
    }

    // Who is held is noted only behind the last cell: all hits of a frame come at once.
    private void hitInCells() {
        for (int cell = 0; cell < CELLS; cell++) {
            if (isHeldIn(cell, 0) && isHeldIn(cell, 1)) {
                hitAllIn(cell);
            }
        }
        noteHeld();
    }

    private boolean isHeldIn(int cell, int side) {
        for (int i = 0; i < actors.size(); i++) {
            Actor actor = actors.get(i);
            if (actor.held && actor.cell == cell && actor.side == side) {
                return true;
            }
        }
        return false;
    }

    private void hitAllIn(int cell) {
        for (int i = 0; i < actors.size(); i++) {
            Actor actor = actors.get(i);
            if (actor.held && actor.cell == cell) {
                actor.lives--;
            }
        }
    }

    private int nearestSound(int chosen) {
        int nearest = NONE;
        int least = CELLS;
        for (int i = 0; i < sounds.size(); i++) {
            Sound sound = sounds.get(i);
            int distance = Math.abs(sound.maker.cell - ear);
            boolean isChosen = (chosen >> i & 1) == 1;
            // Only a lesser distance wins, so that the lower number stays at the same one.
            if (!isChosen && canBeHeard(sound) && distance < least) {
                nearest = i;
                least = distance;
            }
        }
        return nearest;
    }

    private boolean canBeHeard(Sound sound) {
        return sound.maker.held && framesRun - sound.madeAt < SOUND_FRAMES;
    }

    private static final class Actor {
        final int number;
        final int side;
        final ArrayList<Link> links;
        int handle;
        int cell;
        int way;
        int lives;
        boolean root;
        boolean held;
        // An actor that comes behind a marking bears no note of it, so the sweep leaves it alone.
        boolean lostAtMarking;

        Actor(int number, int cell, int way, int side, int lives) {
            this.number = number;
            this.cell = cell;
            this.way = way;
            this.side = side;
            this.lives = lives;
            links = new ArrayList<>();
        }

        int countedLinksTo(Actor other) {
            int found = 0;
            for (int i = 0; i < links.size(); i++) {
                Link link = links.get(i);
                if (link.kind == COUNTED && link.other == other) {
                    found++;
                }
            }
            return found;
        }

        boolean holdOthers() {
            boolean anyMore = false;
            for (int i = 0; i < links.size(); i++) {
                Link link = links.get(i);
                Actor other = link.other;
                if (link.kind != WEAK && !other.held && other.lives > 0) {
                    other.held = true;
                    anyMore = true;
                }
            }
            return anyMore;
        }

        void move() {
            if (isCell(cell + way)) {
                cell += way;
            } else {
                way = -way;
            }
        }
    }

    // A link leads to the actor, not to a handle or a slot: another actor may come into that slot.
    private static final class Link {
        final Actor other;
        final int kind;

        Link(Actor other, int kind) {
            this.other = other;
            this.kind = kind;
        }
    }

    private static final class Wave {
        final int frame;
        final int cell;
        final int way;
        final int side;
        final int lives;

        Wave(int frame, int cell, int way, int side, int lives) {
            this.frame = frame;
            this.cell = cell;
            this.way = way;
            this.side = side;
            this.lives = lives;
        }
    }

    private static final class Sound {
        final Actor maker;
        final int madeAt;

        Sound(Actor maker, int madeAt) {
            this.maker = maker;
            this.madeAt = madeAt;
        }
    }

    private static final class Slots {
        static final int SLOTS = 12;
        private static final int MARKING = SLOTS;
        private static final int MARKING_COST = 4, LOOK_COST = 1, AGE_IN_HANDLE = 100;

        final Actor[] lying;
        final int[] ages;
        // The slot that the sweep looks at next, or MARKING.
        private int next;

        Slots() {
            lying = new Actor[SLOTS];
            ages = new int[SLOTS];
            next = MARKING;
        }

        int countFree() {
            int found = 0;
            for (int slot = 0; slot < SLOTS; slot++) {
                if (lying[slot] == null) {
                    found++;
                }
            }
            return found;
        }

        // At most 8 are held, so a slot is free behind a sweep of all.
        void settle(Actor actor) {
            if (countFree() == 0) {
                sweepAll();
            }
            for (int slot = 0; slot < SLOTS; slot++) {
                if (lying[slot] == null) {
                    lying[slot] = actor;
                    ages[slot]++;
                    actor.handle = AGE_IN_HANDLE * ages[slot] + slot;
                    return;
                }
            }
        }

        int sweepAll() {
            int freed = 0;
            for (int slot = 0; slot < SLOTS; slot++) {
                Actor actor = lying[slot];
                if (actor != null && !actor.held) {
                    lying[slot] = null;
                    freed++;
                }
            }
            next = MARKING;
            return freed;
        }

        // Each step costs 1 at least, so the budget bounds the steps too.
        void goOn(int budget) {
            int left = budget;
            for (int step = 0; step < budget; step++) {
                int cost = next < SLOTS ? LOOK_COST : MARKING_COST;
                if (cost > left) {
                    return;
                }
                left -= cost;
                takeStep();
            }
        }

        private void takeStep() {
            if (next >= 0 && next < SLOTS) {
                lookAt(next);
                next++;
            } else {
                mark();
                next = 0;
            }
        }

        private void mark() {
            for (int slot = 0; slot < SLOTS; slot++) {
                Actor actor = lying[slot];
                if (actor != null && !actor.held) {
                    actor.lostAtMarking = true;
                }
            }
        }

        private void lookAt(int slot) {
            Actor actor = lying[slot];
            if (actor != null && actor.lostAtMarking) {
                lying[slot] = null;
            }
        }
    }
}
