/** What README.md tells of the class: the answers of its example, and its orders. */
public final class ReadmeTest {
    public static void main(String[] args) {
        example();
        orders();
        Check.end();
    }

    private static void example() {
        WokenRooms chip = new WokenRooms();
        Check.due("room", chip.room(0, 20, 3, 10, 4, 1), 0);
        Check.due("plug", chip.plug(0, 0), 1);
        Check.due("policy", chip.policy(0, 5, 1), 0);
        Check.due("use", chip.use(0, 12, 4), 1);
        Check.due("beginsIn", chip.beginsIn(0), 12);
        // Asleep for 9 ticks, waking for 3, in use for 4, awake for 5, and asleep for the other 29.
        Check.due("ahead", chip.ahead(50, 0), 9 + 20 + 40 + 20 + 29);
        Check.due("tick", chip.tick(50), 1);
        Check.due("energy", chip.energy(0, 4), 118);
        Check.dueBits("shareBits", chip.shareBits(), (float) (40.0 / 118.0));
        Check.due("wake", chip.wake(7), WokenRooms.INVALID_ARGUMENT);
        Check.due("undo", chip.undo(), 3);
        Check.due("time", chip.count(2), 0);
    }

    private static void orders() {
        WokenRooms chip = new WokenRooms();
        Check.plugged(chip, 0, 3);
        Check.write(chip, "u0,12,4;w0;t3;s0;t50;");
        Check.due("fault", chip.fault(0), WokenRooms.NOT_FOUND);
        Check.due("play", chip.play(), 5);
        Check.due("time", chip.count(2), 53);
        Check.due("woken", chip.roomOf(0, 11), 2);
    }
}
