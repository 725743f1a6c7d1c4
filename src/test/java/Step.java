/** A call of the face, with arguments as they are given to it. */
record Step(Name name, int a, int b, int c, int d, int e) {
    static final long OUT = Long.MIN_VALUE, ARGUMENT = OUT + 1, STATE = OUT + 2;

    enum Name {
        SPAWN, UNROOT, TIE, UNTIE, IS_HELD, HELD, NUMBER, CELL, LIVES, LINK_AT, COUNT,
        WAVE, FRAME, FRAMES, SWEEP, FREE, AGE, SUM, SUM_BY_REPLAY, LISTEN, SOUND, HEARD
    }

    static Step of(Name name, int... args) {
        int[] all = java.util.Arrays.copyOf(args, 5);
        return new Step(name, all[0], all[1], all[2], all[3], all[4]);
    }

    /** What the hall answers, or which exception it throws. */
    long on(Spritehall hall) {
        try {
            return call(hall);
        } catch (RuntimeException thrown) {
            if (!Checks.isThrownByTheHall(thrown)) {
                throw thrown;
            }
            // No class above or below the three is due anywhere.
            Class<?> kind = thrown.getClass();
            if (kind == IndexOutOfBoundsException.class) {
                return OUT;
            }
            if (kind == IllegalArgumentException.class) {
                return ARGUMENT;
            }
            if (kind == IllegalStateException.class) {
                return STATE;
            }
            throw thrown;
        }
    }

    private long call(Spritehall hall) {
        return switch (name) {
            case SPAWN -> hall.spawn(a, b, c, d, e);
            case UNROOT -> hall.unroot(a);
            case TIE -> hall.tie(a, b, c);
            case UNTIE -> hall.untie(a, b);
            case IS_HELD -> hall.isHeld(a) ? 1 : 0;
            case HELD -> hall.held();
            case NUMBER -> hall.number(a);
            case CELL -> hall.cell(a);
            case LIVES -> hall.lives(a);
            case LINK_AT -> hall.linkAt(a, b);
            case COUNT -> hall.count(a);
            case WAVE -> hall.wave(a, b, c, d, e);
            case FRAME -> hall.frame(a);
            case FRAMES -> hall.frames();
            case SWEEP -> hall.sweep();
            case FREE -> hall.free();
            case AGE -> hall.age(a);
            case SUM -> hall.sum();
            case SUM_BY_REPLAY -> hall.sumByReplay();
            case LISTEN -> hall.listen(a);
            case SOUND -> hall.sound(a);
            case HEARD -> hall.heard();
        };
    }

    static String told(long answer) {
        return answer == OUT ? "IndexOutOfBoundsException"
                : answer == ARGUMENT ? "IllegalArgumentException"
                : answer == STATE ? "IllegalStateException" : Long.toString(answer);
    }
}
