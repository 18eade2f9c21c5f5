/** Promises 11 to 13: planned uses. */
public final class UsesTest {
    public static void main(String[] args) {
        promise11Use();
        promise11Limit();
        promise12UseOf();
        promise12Renumbered();
        promise13Drop();
        Check.end();
    }

    private static void promise11Use() {
        WokenRooms x = new WokenRooms();
        Check.plugged(x, 0, 1);
        x.tick(5);
        Check.due("in the past", x.use(0, 4, 1), Check.INVALID);
        Check.due("now", x.use(0, 5, 1), 1);
        Check.due("latest", x.use(0, 50000, 50), 2);
        Check.due("too late", x.use(0, 50001, 1), Check.INVALID);
        Check.due("highest int", x.use(0, Integer.MAX_VALUE, 1), Check.INVALID);
        Check.due("length 0", x.use(0, 5, 0), Check.INVALID);
        Check.due("length 51", x.use(0, 5, 51), Check.INVALID);
        Check.due("no room", x.use(1, 5, 1), Check.INVALID);
        Check.due("room -1", x.use(-1, 5, 1), Check.INVALID);
        Check.due("two are planned", x.count(1), 2);
    }

    private static void promise11Limit() {
        WokenRooms x = new WokenRooms();
        x.room(0, 0, 1, 1, 0, 0);
        x.room(1, 0, 1, 1, 0, 0);
        for (int i = 0; i < 12; i++) {
            Check.due("use", x.use(i % 2, i, 1), i + 1);
        }
        Check.due("a thirteenth", x.use(0, 1, 1), Check.LIMIT);
        Check.due("a wrong thirteenth", x.use(0, 1, 0), Check.INVALID);
        Check.due("of room 0", x.roomOf(0, 8), 6);
        x.drop(3);
        Check.due("in its place", x.use(0, 1, 1), 12);
    }

    private static void promise12UseOf() {
        WokenRooms x = new WokenRooms();
        x.room(0, 0, 1, 1, 0, 0);
        x.room(1, 0, 1, 1, 0, 0);
        x.use(1, 9, 4);
        x.use(0, 7, 3);
        x.use(1, 8, 2);
        x.use(1, 8, 1);
        int[][] due = {{1, 9, 4, 0}, {0, 7, 3, 1}, {1, 8, 2, 1}, {1, 8, 1, 0}};
        for (int number = 0; number < 4; number++) {
            for (int what = 0; what < 4; what++) {
                Check.due("useOf " + number + " " + what, x.useOf(number, what), due[number][what]);
            }
        }
        Check.due("what 4", x.useOf(0, 4), Check.INVALID);
        Check.due("what -1", x.useOf(0, -1), Check.INVALID);
        Check.due("number 4", x.useOf(4, 0), Check.INVALID);
        Check.due("number -1", x.useOf(-1, 0), Check.INVALID);
    }

    private static void promise12Renumbered() {
        WokenRooms x = new WokenRooms();
        Check.plugged(x, 0, 1);
        x.wake(0);
        x.use(0, 30, 1);
        x.use(0, 1, 2);
        x.use(0, 20, 3);
        Check.due("one begins", x.tick(2), 1);
        Check.due("the first", x.useOf(0, 1), 30);
        Check.due("the one behind", x.useOf(1, 1), 20);
        Check.due("its length", x.useOf(1, 2), 3);
        Check.due("is first", x.useOf(1, 3), 1);
        Check.due("no third", x.useOf(2, 0), Check.INVALID);
    }

    private static void promise13Drop() {
        WokenRooms x = new WokenRooms();
        x.room(0, 0, 1, 1, 0, 0);
        x.room(1, 0, 1, 1, 0, 0);
        Check.due("nothing to drop", x.drop(0), Check.INVALID);
        x.use(1, 5, 4);
        x.use(0, 6, 5);
        x.use(1, 7, 6);
        Check.due("drop", x.drop(0), 1);
        Check.due("room of the next", x.useOf(0, 0), 0);
        Check.due("time of the next", x.useOf(0, 1), 6);
        Check.due("length of the next", x.useOf(0, 2), 5);
        Check.due("now first", x.useOf(1, 3), 1);
        Check.due("too high", x.drop(2), Check.INVALID);
        Check.due("negative", x.drop(-1), Check.INVALID);
        Check.due("drop the last", x.drop(1), 1);
        Check.due("drop the only", x.drop(0), 0);
        Check.due("none planned", x.count(1), 0);
    }
}
