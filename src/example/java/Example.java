/** A knight, a sword that he keeps, and a wolf that comes by a wave. */
public final class Example {
    public static void main(String[] args) {
        Spritehall hall = new Spritehall();

        // A root in the cell 2, on its way up, of the side 0, with 3 lives; and one that it keeps.
        int knight = hall.spawn(Spritehall.NONE, 2, 1, 0, 3);
        int sword = hall.spawn(knight, 9, 0, 0, 1);
        System.out.println("knight " + knight + ", sword " + sword + ", held " + hall.held());

        // In the frame 1 the wolf comes into the cell 4, and the knight goes there.
        hall.wave(1, 4, 0, 1, 2);
        hall.sound(sword);
        hall.frame(0);
        hall.frame(0);
        // A wave answers no handle: the slot 2 is the lowest free one, and nobody came into it before.
        int wolf = 100 * hall.age(2) + 2;
        System.out.println("wolf " + wolf + ", its lives " + hall.lives(wolf) + ", the knight's " + hall.lives(knight));
        System.out.println("heard " + Integer.toBinaryString(hall.heard()));

        // Without its only link the sword is not held; it fills its slot until that is swept.
        System.out.println("held " + hall.untie(knight, 0) + ", free " + hall.free());
        System.out.println("swept " + hall.sweep() + ", free " + hall.free());
        System.out.println("the next one in that slot " + hall.spawn(Spritehall.NONE, 0, -1, 1, 1));
        try {
            hall.cell(sword);
        } catch (IndexOutOfBoundsException e) {
            System.out.println("the sword's handle is nobody's now");
        }
        System.out.println("sum " + hall.sum() + ", by replay " + hall.sumByReplay());
    }
}
