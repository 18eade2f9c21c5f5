/** Chips in states that the tests share; each is made by at most 130 calls. */
final class Chips {
    /** The states that roomOf tells. */
    static final int ASLEEP = 0;
    static final int WAKING = 1;
    static final int AWAKE = 2;
    static final int IN_USE = 3;

    private Chips() {
    }

    static WokenRooms fresh() {
        return new WokenRooms();
    }

    /**
     * Seven rooms: 0 asleep, 1 waking, 2 awake, 3 in use (for the second time), 4 asleep and not plugged
     * (it needs 2), 5 asleep (it needs 0, which is asleep), 6 asleep (it needs 1, which is waking). Seven uses
     * are planned, the text is "w0;t1;", the history is full of states that differ.
     */
    static WokenRooms busy() {
        WokenRooms x = new WokenRooms();
        for (int i = 0; i < 7; i++) {
            x.room(i % 2, 11 + i, i == 1 ? 20 : 3, 5 + i, 4 + i, 1 + i);
        }
        int[] plugged = {0, 1, 2, 3, 5, 6};
        for (int room : plugged) {
            x.plug(room, room % 2);
        }
        x.need(4, 2);
        x.need(5, 0);
        x.need(6, 1);
        x.policy(2, 90, 1);
        x.policy(3, 7, 2);
        x.policy(6, 40, 2);
        x.wake(2);
        x.wake(3);
        x.use(3, 3, 2);
        x.use(3, 7, 30);
        planUses(x);
        Check.write(x, "w0;t1;");
        x.tick(9);
        x.limit(1, 3);
        x.wake(1);
        x.tick(1);
        dueStates(x, ASLEEP, WAKING, AWAKE, IN_USE, ASLEEP, ASLEEP, ASLEEP);
        Check.due("the history is full", x.count(10), 4);
        return x;
    }

    private static void planUses(WokenRooms x) {
        x.use(2, 300, 5);
        x.use(0, 400, 3);
        x.use(3, 45, 2);
        x.use(3, 45, 3);
        x.use(2, 250, 4);
        x.use(5, 60, 1);
        x.use(6, 700, 2);
    }

    static void dueStates(WokenRooms x, int... states) {
        for (int room = 0; room < states.length; room++) {
            Check.due("state of room " + room, x.roomOf(room, 1), states[room]);
        }
    }

    /**
     * Eight rooms, of which 0 to 4 are of the kind and 5 to 7 of the other one; the rail of the kind is full of
     * 0 to 3 and as many of these are waking as its limit tells (0 and 1), 5 and 6 are plugged into the other
     * one. Twelve uses are planned, the text has 60 characters, the history is full.
     */
    private static WokenRooms full(int kind) {
        WokenRooms x = new WokenRooms();
        for (int i = 0; i < 8; i++) {
            x.room(i < 5 ? kind : 1 - kind, 20 + i, 15, 9, 4, 2);
        }
        int[] plugged = {0, 1, 2, 3, 5, 6};
        for (int room : plugged) {
            x.plug(room, room < 5 ? kind : 1 - kind);
        }
        for (int i = 0; i < 12; i++) {
            x.use(i % 8, 40 + 3 * (i % 5), 4);
        }
        Check.write(x, "t1;t1;t1;t1;t1;t1;t1;t1;t1;t1;t1;t1;t1;t1;t1;t1;t1;t1;t1;t1;");
        x.tick(1);
        x.wake(0);
        x.wake(1);
        x.tick(2);
        Check.due("all places for uses are taken", x.count(1), 12);
        Check.due("the history is full", x.count(10), 4);
        return x;
    }

    static WokenRooms fullOfLogic() {
        return full(0);
    }

    static WokenRooms fullOfMemory() {
        return full(1);
    }

    /** The time is 50000, room 0 is awake, room 1 asleep, room 2 in use; a use of room 1 is due. */
    static WokenRooms last() {
        WokenRooms x = new WokenRooms();
        for (int i = 0; i < 3; i++) {
            Check.plugged(x, i % 2, 3);
        }
        x.use(0, 49900, 3);
        x.use(2, 49980, 50);
        Check.passTo(x, 50000);
        x.use(1, 50000, 2);
        Check.write(x, "t1;");
        dueStates(x, AWAKE, ASLEEP, IN_USE);
        return x;
    }
}
