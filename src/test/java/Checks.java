import java.util.IdentityHashMap;
import java.util.Map;
import java.util.function.Consumer;
import java.util.function.Supplier;

/** Counts the answers that are not the ones that are due, and prints each of them. */
final class Checks {
    // Nothing is promised of an object behind its call 512, so a test that looks too often shows nothing.
    private static final int MOST_CALLS_FOR_LOOKS = 400;
    private static final Map<Spritehall, Integer> callsForLooks = new IdentityHashMap<>();

    static final Class<IndexOutOfBoundsException> OUT = IndexOutOfBoundsException.class;
    static final Class<IllegalArgumentException> ARGUMENT = IllegalArgumentException.class;
    static final Class<IllegalStateException> STATE = IllegalStateException.class;

    /** Stands for an exception that no throw statement of the class threw. */
    private interface MachineThrew {
    }

    interface Call {
        void run();
    }

    private int made;
    private int wrong;
    private String sentence = "";

    void due(String call, long want, long got) {
        made++;
        if (got != want) {
            fail(call + " answered " + got + ", due is " + want);
        }
    }

    void due(String call, boolean want, boolean got) {
        due(call, want ? 1 : 0, got ? 1 : 0);
    }

    /** A test of one sentence of the document, which is told with all that fails in it. */
    void sentence(String words, Runnable test) {
        int before = made;
        sentence = "[" + words + "] ";
        try {
            test.run();
        } catch (RuntimeException thrown) {
            fail("the test ended by " + thrown + " at " + thrown.getStackTrace()[0]);
        }
        if (made == before) {
            fail("nothing was looked at");
        }
        sentence = "";
    }

    /** The call throws just that exception, and the hall answers the same behind it as ahead of it. */
    void dueThrow(String call, Class<? extends RuntimeException> want, Spritehall hall, Call run) {
        made++;
        String before = look(hall);
        Class<?> got = thrownBy(run);
        if (got != want) {
            fail(call + " threw " + (got == null ? "nothing" : got.getName()) + ", due is " + want.getName());
        }
        String after = look(hall);
        if (!after.equals(before)) {
            fail(call + " threw and changed " + before + " to " + after);
        }
    }

    /** The same on a hall of its own. */
    void dueThrow(String call, Class<? extends RuntimeException> want, Supplier<Spritehall> make,
            Consumer<Spritehall> run) {
        Spritehall hall = make.get();
        dueThrow(call, want, hall, () -> run.accept(hall));
    }

    void fail(String text) {
        wrong++;
        System.out.println("wrong: " + sentence + text);
    }

    void end() {
        System.out.println(made + " answers looked at, " + wrong + " wrong");
        if (wrong > 0) {
            System.exit(1);
        }
    }

    static Class<?> thrownBy(Call run) {
        try {
            run.run();
        } catch (RuntimeException e) {
            return isThrownByTheHall(e) ? e.getClass() : MachineThrew.class;
        }
        return null;
    }

    /** Thrown by a throw statement of the class: the machine and the library never throw in it. */
    static boolean isThrownByTheHall(RuntimeException thrown) {
        StackTraceElement[] trace = thrown.getStackTrace();
        return trace.length > 0 && trace[0].getClassName().startsWith("Spritehall");
    }

    /** All that the hall tells of itself. */
    static String look(Spritehall hall) {
        int calls = 6 + 24;
        StringBuilder text = new StringBuilder();
        text.append(hall.held()).append(" held, ").append(hall.frames()).append(" frames, ");
        text.append(hall.free()).append(" free, sums ").append(hall.sum()).append(' ').append(hall.sumByReplay());
        text.append(", heard ").append(hall.heard());
        for (int slot = 0; slot < 12; slot++) {
            int handle = 100 * hall.age(slot) + slot;
            text.append("; ").append(handle);
            if (hall.isHeld(handle)) {
                calls += lookAt(hall, handle, text);
            }
        }
        if (callsForLooks.merge(hall, calls, Integer::sum) > MOST_CALLS_FOR_LOOKS) {
            throw new IllegalStateException("this hall is looked at too often");
        }
        return text.toString();
    }

    private static int lookAt(Spritehall hall, int handle, StringBuilder text) {
        text.append(": ").append(hall.number(handle)).append(' ').append(hall.cell(handle)).append(' ');
        text.append(hall.lives(handle)).append(' ').append(hall.count(handle)).append(" to");
        int place = 0;
        while (place < 4) {
            try {
                text.append(' ').append(hall.linkAt(handle, place));
                place++;
            } catch (IndexOutOfBoundsException e) {
                return 5 + place;
            }
        }
        return 4 + place;
    }
}
