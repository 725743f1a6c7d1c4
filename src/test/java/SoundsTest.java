/** Promises 21 to 23: the ear, and the sounds that it hears. */
public final class SoundsTest {
    private static final int NONE = Spritehall.NONE;
    private static final Checks checks = new Checks();

    public static void main(String[] args) {
        listen();
        soundNumbers();
        soundThrows();
        threeVoices();
        nearestFirst();
        lowerFirst();
        soundsEnd();
        soundsFollowTheirActors();
        soundsOfTheLost();
        soundsBeyondThree();
        checks.end();
    }

    private static int root(Spritehall hall, int cell) {
        return hall.spawn(NONE, cell, 0, 0, 1);
    }

    private static void listen() {
        Spritehall hall = new Spritehall();
        checks.due("at first", 0, hall.listen(9));
        checks.due("then", 9, hall.listen(0));
        checks.due("the same", 0, hall.listen(0));
        checks.due("then again", 0, hall.listen(4));
        for (int cell : new int[] {-1, 10, Integer.MIN_VALUE, Integer.MAX_VALUE}) {
            checks.dueThrow("listen(" + cell + ")", Checks.ARGUMENT, hall, () -> hall.listen(cell));
        }
        checks.due("the ear stays", 4, hall.listen(4));
    }

    private static void soundNumbers() {
        Spritehall hall = new Spritehall();
        int a = root(hall, 0);
        for (int i = 0; i < 30; i++) {
            checks.due("sound " + i, i, hall.sound(a));
        }
        checks.dueThrow("sound 30", Checks.STATE, hall, () -> hall.sound(a));
        checks.dueThrow("sound 30 of none", Checks.OUT, hall, () -> hall.sound(101));
        for (int i = 0; i < 5; i++) {
            hall.frame(0);
        }
        checks.due("all have ended", 0, hall.heard());
        checks.dueThrow("30 though none is heard", Checks.STATE, hall, () -> hall.sound(a));
    }

    private static void soundThrows() {
        Spritehall hall = new Spritehall();
        int a = root(hall, 0);
        hall.unroot(a);
        for (int handle : new int[] {a, NONE, 0, 101, Integer.MIN_VALUE, Integer.MAX_VALUE}) {
            checks.dueThrow("sound(" + handle + ")", Checks.OUT, hall, () -> hall.sound(handle));
        }
        checks.due("the first", 0, hall.sound(root(hall, 0)));
    }

    private static void threeVoices() {
        Spritehall hall = new Spritehall();
        int a = root(hall, 0);
        int[] sets = {1, 3, 7, 7, 7};
        for (int i = 0; i < sets.length; i++) {
            hall.sound(a);
            checks.due("heard of " + (i + 1), sets[i], hall.heard());
        }
    }

    private static void nearestFirst() {
        Spritehall hall = new Spritehall();
        int[] cells = {9, 7, 5, 3, 1};
        for (int cell : cells) {
            hall.sound(root(hall, cell));
        }
        checks.due("at 0", 0b11100, hall.heard());
        hall.listen(9);
        checks.due("at 9", 0b00111, hall.heard());
        hall.listen(5);
        checks.due("at 5", 0b01110, hall.heard());
        hall.listen(4);
        checks.due("at 4: 2 and 3 by 1, then 1 by 3, ahead of 4", 0b01110, hall.heard());
        hall.listen(6);
        checks.due("at 6: 1 and 2 by 1, then 0 by 3, ahead of 3", 0b00111, hall.heard());
        hall.listen(1);
        checks.due("at 1", 0b11100, hall.heard());
    }

    private static void lowerFirst() {
        Spritehall hall = new Spritehall();
        hall.listen(5);
        int right = root(hall, 6);
        int left = root(hall, 4);
        hall.sound(left);
        hall.sound(right);
        hall.sound(left);
        hall.sound(right);
        checks.due("of the same distance", 7, hall.heard());
        hall.sound(root(hall, 5));
        checks.due("a near one takes the place of the highest", 0b10011, hall.heard());
    }

    private static void soundsEnd() {
        Spritehall hall = new Spritehall();
        int a = root(hall, 3);
        hall.frame(0);
        hall.sound(a);
        for (int i = 0; i < 4; i++) {
            checks.due(i + " frames have run", 1, hall.heard());
            hall.frame(0);
        }
        checks.due("4 frames have run", 1, hall.heard());
        hall.sound(a);
        checks.due("the next", 3, hall.heard());
        hall.frame(0);
        checks.due("5 frames have run", 2, hall.heard());
        for (int i = 0; i < 4; i++) {
            hall.frame(0);
        }
        checks.due("both have ended", 0, hall.heard());
    }

    private static void soundsFollowTheirActors() {
        Spritehall hall = new Spritehall();
        int comes = hall.spawn(NONE, 9, -1, 0, 1);
        int still = root(hall, 6);
        hall.sound(comes);
        for (int i = 0; i < 3; i++) {
            hall.sound(still);
        }
        checks.due("far away", 0b1110, hall.heard());
        hall.frame(0);
        hall.frame(0);
        checks.due("in 7", 0b1110, hall.heard());
        hall.frame(0);
        checks.due("in 6, the lowest", 0b0111, hall.heard());
    }

    private static void soundsOfTheLost() {
        Spritehall hall = new Spritehall();
        int a = root(hall, 0);
        int b = root(hall, 1);
        for (int i = 0; i < 3; i++) {
            hall.sound(a);
        }
        hall.sound(b);
        hall.unroot(a);
        checks.due("only b's", 8, hall.heard());
        hall.sweep();
        int c = root(hall, 0);
        checks.due("c is in a's slot", 200, c);
        checks.due("a's sounds are not c's", 8, hall.heard());
        hall.spawn(NONE, 1, 0, 1, 1);
        hall.frame(0);
        checks.due("b has fallen", 0, hall.heard());
    }

    private static void soundsBeyondThree() {
        Spritehall hall = new Spritehall();
        int far = root(hall, 9);
        int near = root(hall, 0);
        for (int i = 0; i < 27; i++) {
            hall.sound(far);
        }
        for (int i = 27; i < 30; i++) {
            hall.sound(near);
        }
        checks.due("the last three", 7 << 27, hall.heard());
        hall.listen(9);
        checks.due("the first three", 7, hall.heard());
    }
}
