import java.util.ArrayList;
import java.util.Arrays;
import java.util.List;

/**
 * The hall once more, from the document alone and without a thought of speed: who is held is
 * found anew for each question, and the replay runs a whole hall again.
 */
final class Model {
    private static final int NONE = -1, WEAK = 2, COUNTED = 1;

    private static final class Actor {
        int handle, slot, cell, way, side, lives;
        boolean root;
        final List<int[]> links = new ArrayList<>();
    }

    private final List<Actor> came = new ArrayList<>();
    private final int[] inSlot = new int[12];
    private final int[] ages = new int[12];
    private final List<Step> waves = new ArrayList<>();
    private final List<int[]> sounds = new ArrayList<>();
    private final List<Step> told = new ArrayList<>();
    private final boolean sweepsBehindFrames;
    private int frames;
    private int ear;
    // The sweep: how many slots were looked at since the last marking, or NONE ahead of one.
    private int looked = NONE;
    private int cameAtMarking;
    private boolean[] heldAtMarking = new boolean[0];

    int forcedSweeps;
    int wavesThatFailed;
    int rounds;

    Model() {
        this(false);
    }

    private Model(boolean sweepsBehindFrames) {
        this.sweepsBehindFrames = sweepsBehindFrames;
        Arrays.fill(inSlot, NONE);
    }

    int came() {
        return came.size();
    }

    int handleOf(int number) {
        return came.get(number).handle;
    }

    /** Answers a call whose actors are named by their handles. */
    long answer(Step step) {
        int a = step.a();
        return switch (step.name()) {
            case SPAWN -> a == NONE || find(a) != NONE ? spawn(step, a == NONE ? NONE : find(a)) : Step.OUT;
            case TIE -> tie(find(a), find(step.b()), step.c());
            case IS_HELD -> find(a) == NONE ? 0 : 1;
            case HELD -> countHeld();
            case WAVE -> wave(step);
            case FRAME -> frame(a);
            case FRAMES -> frames;
            case SWEEP -> sweep();
            case FREE -> free();
            case AGE -> a < 0 || a > 11 ? Step.OUT : ages[a];
            case SUM -> sum();
            case SUM_BY_REPLAY -> replay().sum();
            case LISTEN -> listen(a);
            case HEARD -> heard();
            default -> find(a) == NONE ? Step.OUT : answerOf(find(a), step);
        };
    }

    private long answerOf(int number, Step step) {
        Actor actor = came.get(number);
        return switch (step.name()) {
            case UNROOT -> unroot(number);
            case UNTIE -> untie(number, step.b());
            case NUMBER -> number;
            case CELL -> actor.cell;
            case LIVES -> actor.lives;
            case LINK_AT -> linkAt(actor, step.b());
            case COUNT -> count(number);
            case SOUND -> sound(number);
            default -> throw new IllegalStateException();
        };
    }

    private int find(int handle) {
        boolean[] held = heldOnes();
        for (int number = 0; number < came.size(); number++) {
            if (held[number] && came.get(number).handle == handle) {
                return number;
            }
        }
        return NONE;
    }

    private boolean[] heldOnes() {
        boolean[] held = new boolean[came.size()];
        for (int number = 0; number < came.size(); number++) {
            if (came.get(number).root) {
                hold(number, held);
            }
        }
        return held;
    }

    private void hold(int number, boolean[] held) {
        Actor actor = came.get(number);
        if (held[number] || actor.lives == 0) {
            return;
        }
        held[number] = true;
        for (int[] link : actor.links) {
            if (link[1] != WEAK) {
                hold(link[0], held);
            }
        }
    }

    private int countHeld() {
        int count = 0;
        for (boolean held : heldOnes()) {
            count += held ? 1 : 0;
        }
        return count;
    }

    private static boolean isWrong(int cell, int way, int side, int lives) {
        return cell < 0 || cell > 9 || way < -1 || way > 1 || side < 0 || side > 1 || lives < 1 || lives > 9;
    }

    private long spawn(Step step, int owner) {
        if (isWrong(step.b(), step.c(), step.d(), step.e())) {
            return Step.ARGUMENT;
        }
        if (countHeld() == 8 || came.size() == 40 || owner != NONE && came.get(owner).links.size() == 3) {
            return Step.STATE;
        }
        told.add(new Step(step.name(), owner, step.b(), step.c(), step.d(), step.e()));
        int number = come(step);
        if (owner == NONE) {
            came.get(number).root = true;
        } else {
            came.get(owner).links.add(new int[] {number, 0});
        }
        return came.get(number).handle;
    }

    private int come(Step step) {
        if (free() == 0) {
            forcedSweeps++;
            sweepNow();
        }
        int slot = 0;
        while (inSlot[slot] != NONE) {
            slot++;
        }
        ages[slot]++;
        Actor actor = new Actor();
        actor.slot = slot;
        actor.handle = 100 * ages[slot] + slot;
        actor.cell = step.b();
        actor.way = step.c();
        actor.side = step.d();
        actor.lives = step.e();
        inSlot[slot] = came.size();
        came.add(actor);
        return came.size() - 1;
    }

    private long unroot(int number) {
        if (!came.get(number).root) {
            return Step.STATE;
        }
        told.add(Step.of(Step.Name.UNROOT, number));
        came.get(number).root = false;
        return countHeld();
    }

    private long tie(int from, int to, int kind) {
        if (from == NONE || to == NONE || kind < 0 || kind > 2) {
            return Step.OUT;
        }
        if (from == to) {
            return Step.ARGUMENT;
        }
        List<int[]> links = came.get(from).links;
        if (links.size() == 3) {
            return Step.STATE;
        }
        told.add(Step.of(Step.Name.TIE, from, to, kind));
        links.add(new int[] {to, kind});
        return links.size();
    }

    private long untie(int number, int place) {
        List<int[]> links = came.get(number).links;
        if (place < 0 || place >= links.size()) {
            return Step.OUT;
        }
        told.add(Step.of(Step.Name.UNTIE, number, place));
        links.remove(place);
        return countHeld();
    }

    private long linkAt(Actor actor, int place) {
        if (place < 0 || place >= actor.links.size()) {
            return Step.OUT;
        }
        int other = actor.links.get(place)[0];
        return heldOnes()[other] ? came.get(other).handle : NONE;
    }

    private long count(int number) {
        boolean[] held = heldOnes();
        int count = 0;
        for (int from = 0; from < came.size(); from++) {
            for (int[] link : came.get(from).links) {
                count += held[from] && link[0] == number && link[1] == COUNTED ? 1 : 0;
            }
        }
        return count;
    }

    private long wave(Step step) {
        if (step.a() < frames || step.a() > 500 || isWrong(step.b(), step.c(), step.d(), step.e())) {
            return Step.ARGUMENT;
        }
        if (waves.size() == 20) {
            return Step.STATE;
        }
        told.add(step);
        waves.add(step);
        return waves.size();
    }

    private long frame(int budget) {
        if (budget < 0 || budget > 50) {
            return Step.ARGUMENT;
        }
        if (frames == 500) {
            return Step.STATE;
        }
        told.add(Step.of(Step.Name.FRAME, budget));
        for (Step wave : waves) {
            if (wave.a() == frames) {
                comeByWave(wave);
            }
        }
        move();
        hit();
        goOnSweeping(budget);
        frames++;
        if (sweepsBehindFrames) {
            sweepNow();
        }
        return free();
    }

    private void comeByWave(Step wave) {
        if (countHeld() < 8 && came.size() < 40) {
            came.get(come(wave)).root = true;
        } else {
            wavesThatFailed++;
        }
    }

    private void move() {
        boolean[] held = heldOnes();
        for (int number = 0; number < came.size(); number++) {
            Actor actor = came.get(number);
            int next = actor.cell + actor.way;
            if (held[number] && (next == -1 || next == 10)) {
                actor.way = -actor.way;
            } else if (held[number]) {
                actor.cell = next;
            }
        }
    }

    private void hit() {
        boolean[] held = heldOnes();
        boolean[] meets = new boolean[came.size()];
        for (int one = 0; one < came.size(); one++) {
            for (int two = 0; two < came.size(); two++) {
                Actor a = came.get(one);
                Actor b = came.get(two);
                meets[one] |= held[one] && held[two] && a.cell == b.cell && a.side != b.side;
            }
        }
        for (int number = 0; number < came.size(); number++) {
            came.get(number).lives -= meets[number] ? 1 : 0;
        }
    }

    private void goOnSweeping(int budget) {
        int left = budget;
        while (left >= (looked == NONE ? 4 : 1)) {
            if (looked == NONE) {
                left -= 4;
                cameAtMarking = came.size();
                heldAtMarking = heldOnes();
                looked = 0;
            } else {
                left -= 1;
                int number = inSlot[looked];
                if (number != NONE && number < cameAtMarking && !heldAtMarking[number]) {
                    inSlot[looked] = NONE;
                }
                looked++;
                if (looked == 12) {
                    looked = NONE;
                    rounds++;
                }
            }
        }
    }

    private long sweep() {
        int before = free();
        sweepNow();
        return free() - before;
    }

    private void sweepNow() {
        boolean[] held = heldOnes();
        for (int slot = 0; slot < 12; slot++) {
            if (inSlot[slot] != NONE && !held[inSlot[slot]]) {
                inSlot[slot] = NONE;
            }
        }
        looked = NONE;
    }

    private int free() {
        int free = 0;
        for (int number : inSlot) {
            free += number == NONE ? 1 : 0;
        }
        return free;
    }

    private long sum() {
        boolean[] held = heldOnes();
        long sum = 0;
        for (int number = 0; number < came.size(); number++) {
            Actor actor = came.get(number);
            if (held[number]) {
                sum += (number + 1) * (actor.cell + 10 * actor.lives + 100 * (actor.way + 1));
            }
        }
        return sum;
    }

    // What was told names its actors by their numbers: their handles hang on when all is swept.
    private Model replay() {
        Model again = new Model(true);
        for (Step step : told) {
            long answer = switch (step.name()) {
                case SPAWN -> again.spawn(step, step.a());
                case UNROOT -> again.unroot(step.a());
                case TIE -> again.tie(step.a(), step.b(), step.c());
                case UNTIE -> again.untie(step.a(), step.b());
                case WAVE -> again.wave(step);
                case FRAME -> again.frame(step.a());
                default -> throw new IllegalStateException();
            };
            if (answer < 0) {
                throw new IllegalStateException("the replay refuses " + step);
            }
        }
        return again;
    }

    private long listen(int cell) {
        if (cell < 0 || cell > 9) {
            return Step.ARGUMENT;
        }
        int before = ear;
        ear = cell;
        return before;
    }

    private long sound(int number) {
        if (sounds.size() == 30) {
            return Step.STATE;
        }
        sounds.add(new int[] {number, frames});
        return sounds.size() - 1;
    }

    private long heard() {
        boolean[] held = heldOnes();
        List<Integer> order = new ArrayList<>();
        for (int s = 0; s < sounds.size(); s++) {
            if (held[sounds.get(s)[0]] && frames - sounds.get(s)[1] < 5) {
                order.add(100 * Math.abs(came.get(sounds.get(s)[0]).cell - ear) + s);
            }
        }
        order.sort(null);
        long set = 0;
        for (int i = 0; i < Math.min(3, order.size()); i++) {
            set |= 1L << order.get(i) % 100;
        }
        return set;
    }
}
