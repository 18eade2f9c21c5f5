/**
 * "A call that returns an error changes nothing", for each call and each error that it can return, and "If several
 * errors apply to a call ..": which one is answered. The arguments out of range are in EdgesTest.
 */
public final class RefusedTest {
    public static void main(String[] args) {
        room();
        need();
        plug();
        unplug();
        use();
        drop();
        wake();
        wakeByTheLimit();
        sleep();
        tick();
        undo();
        type();
        play();
        numbersOfNothing();
        questionsWithoutAValue();
        questionsWithAValue();
        textsAreNoChanges();
        Check.end();
    }

    private static void room() {
        Check.refused("a ninth room", Chips::fullOfLogic, Check.LIMIT, x -> x.room(0, 1, 1, 1, 1, 1));
        Check.refused("a ninth of memory", Chips::fullOfLogic, Check.LIMIT, x -> x.room(1, 500, 20, 50, 50, 20));
        int[][] wrong = {{-1, 1, 1, 1, 1, 1}, {2, 1, 1, 1, 1, 1}, {0, -1, 1, 1, 1, 1}, {0, 501, 1, 1, 1, 1},
            {0, 1, 0, 1, 1, 1}, {0, 1, 21, 1, 1, 1}, {0, 1, 1, 0, 1, 1}, {0, 1, 1, 51, 1, 1}, {0, 1, 1, 1, -1, 1},
            {0, 1, 1, 1, 51, 1}, {0, 1, 1, 1, 1, -1}, {0, 1, 1, 1, 1, 21}};
        for (int[] a : wrong) {
            Check.refused("a ninth room with a wrong argument", Chips::fullOfMemory, Check.INVALID,
                x -> x.room(a[0], a[1], a[2], a[3], a[4], a[5]));
        }
    }

    private static void need() {
        int[] notAsleep = {1, 2, 3};
        for (int room : notAsleep) {
            Check.refused("need 0 by " + room, Chips::busy, Check.NOT_POSSIBLE, x -> x.need(room, 0));
            Check.refused("need none by " + room, Chips::busy, Check.NOT_POSSIBLE, x -> x.need(room, -1));
            Check.refused("need itself by " + room, Chips::busy, Check.INVALID, x -> x.need(room, room));
            Check.refused("need -2 by " + room, Chips::busy, Check.INVALID, x -> x.need(room, -2));
        }
    }

    private static void plug() {
        Check.refused("plugged already", Chips::busy, Check.NOT_POSSIBLE, x -> x.plug(0, 0));
        Check.refused("plugged already, waking", Chips::busy, Check.NOT_POSSIBLE, x -> x.plug(1, 1));
        Check.refused("plugged already, into the other", Chips::busy, Check.NOT_POSSIBLE, x -> x.plug(0, 1));
        Check.refused("logic into rail 1", Chips::busy, Check.NOT_POSSIBLE, x -> x.plug(4, 1));
        Check.refused("memory into rail 0", Chips::fullOfMemory, Check.NOT_POSSIBLE, x -> x.plug(4, 0));
        Check.refused("a fifth of logic", Chips::fullOfLogic, Check.LIMIT, x -> x.plug(4, 0));
        Check.refused("a fifth of memory", Chips::fullOfMemory, Check.LIMIT, x -> x.plug(4, 1));
        Check.refused("plugged already, and full", Chips::fullOfLogic, Check.NOT_POSSIBLE, x -> x.plug(2, 0));
        Check.refused("plugged already, and full", Chips::fullOfMemory, Check.NOT_POSSIBLE, x -> x.plug(2, 1));
        Check.refused("of another kind, and full", Chips::fullOfLogic, Check.NOT_POSSIBLE, x -> x.plug(7, 0));
        Check.refused("of another kind, and full", Chips::fullOfMemory, Check.NOT_POSSIBLE, x -> x.plug(7, 1));
        Check.refused("no such room, and full", Chips::fullOfLogic, Check.INVALID, x -> x.plug(8, 0));
        Check.refused("no such rail, plugged already", Chips::fullOfLogic, Check.INVALID, x -> x.plug(0, 2));
    }

    private static void unplug() {
        Check.refused("unplug what is not plugged", Chips::busy, Check.NOT_POSSIBLE, x -> x.unplug(4));
        int[] notAsleep = {1, 2, 3};
        for (int room : notAsleep) {
            Check.refused("unplug " + room, Chips::busy, Check.NOT_POSSIBLE, x -> x.unplug(room));
        }
    }

    private static void use() {
        Check.refused("a thirteenth use", Chips::fullOfLogic, Check.LIMIT, x -> x.use(0, 3, 1));
        Check.refused("a thirteenth of room 7", Chips::fullOfLogic, Check.LIMIT, x -> x.use(7, 50000, 50));
        int[][] wrong = {{-1, 9, 1}, {8, 9, 1}, {0, 2, 1}, {0, 50001, 1}, {0, 9, 0}, {0, 9, 51}};
        for (int[] a : wrong) {
            Check.refused("a wrong thirteenth use", Chips::fullOfLogic, Check.INVALID, x -> x.use(a[0], a[1], a[2]));
        }
        Check.refused("in the past of 50000", Chips::last, Check.INVALID, x -> x.use(0, 49999, 1));
        Check.refused("behind 50000", Chips::last, Check.INVALID, x -> x.use(0, 50001, 1));
    }

    private static void drop() {
        Check.refused("drop without a use", Chips::fresh, Check.INVALID, x -> x.drop(0));
        Check.refused("drop use 7 of 7", Chips::busy, Check.INVALID, x -> x.drop(7));
        Check.refused("drop use 12 of 12", Chips::fullOfLogic, Check.INVALID, x -> x.drop(12));
        Check.refused("drop use -1", Chips::fullOfLogic, Check.INVALID, x -> x.drop(-1));
    }

    private static void wake() {
        Check.refused("wake what is waking", Chips::busy, Check.NOT_POSSIBLE, x -> x.wake(1));
        Check.refused("wake what is awake", Chips::busy, Check.NOT_POSSIBLE, x -> x.wake(2));
        Check.refused("wake what is in use", Chips::busy, Check.NOT_POSSIBLE, x -> x.wake(3));
        Check.refused("wake what is not plugged", Chips::busy, Check.NOT_POSSIBLE, x -> x.wake(4));
        Check.refused("wake what needs one asleep", Chips::busy, Check.NOT_POSSIBLE, x -> x.wake(5));
        Check.refused("wake what needs one waking", Chips::busy, Check.NOT_POSSIBLE, x -> x.wake(6));
    }

    /** Rail 0 has four rooms, of which as many as told are waking; the limit is set then. */
    private static WokenRooms waking(int rooms, int limit) {
        WokenRooms x = new WokenRooms();
        x.limit(0, 4);
        for (int i = 0; i < 4; i++) {
            Check.plugged(x, 0, 20);
        }
        for (int i = 0; i < rooms; i++) {
            Check.due("wake " + i, x.wake(i), 20);
        }
        x.limit(0, limit);
        return x;
    }

    private static void wakeByTheLimit() {
        for (int limit = 1; limit <= 4; limit++) {
            for (int rooms = 0; rooms <= 3; rooms++) {
                int most = limit;
                int others = rooms;
                String name = "wake with the limit " + most + " where " + others + " are waking";
                if (others < most) {
                    Check.due(name, waking(others, most).wake(3), 20);
                } else {
                    Check.refused(name, () -> waking(others, most), Check.NOT_POSSIBLE, x -> x.wake(3));
                }
            }
        }
    }

    /** Room 0 is awake, room 1 needs it and is in a state. */
    private static WokenRooms needed(int state) {
        WokenRooms x = new WokenRooms();
        Check.plugged(x, 0, 1);
        Check.plugged(x, 1, 2);
        x.need(1, 0);
        x.wake(0);
        x.tick(1);
        if (state != Chips.ASLEEP) {
            x.wake(1);
        }
        x.tick(1);
        if (state == Chips.AWAKE || state == Chips.IN_USE) {
            x.tick(1);
        }
        if (state == Chips.IN_USE) {
            x.use(1, 3, 9);
            x.tick(1);
        }
        Chips.dueStates(x, Chips.AWAKE, state);
        return x;
    }

    private static void sleep() {
        Check.refused("sleep of what is asleep", Chips::busy, Check.NOT_POSSIBLE, x -> x.sleep(0));
        Check.refused("sleep of what is waking", Chips::busy, Check.NOT_POSSIBLE, x -> x.sleep(1));
        Check.refused("sleep of what is in use", Chips::busy, Check.NOT_POSSIBLE, x -> x.sleep(3));
        int[] notAsleep = {Chips.WAKING, Chips.AWAKE, Chips.IN_USE};
        for (int state : notAsleep) {
            Check.refused("sleep of what one needs in the state " + state, () -> needed(state), Check.NOT_POSSIBLE,
                x -> x.sleep(0));
        }
        Check.due("sleep of what one asleep needs", needed(Chips.ASLEEP).sleep(0), 1);
    }

    private static void tick() {
        Check.refused("a tick above 50000", Chips::last, Check.LIMIT, x -> x.tick(1));
        Check.refused("200 ticks above 50000", Chips::last, Check.LIMIT, x -> x.tick(200));
        int[] wrong = {0, 201, -1, Integer.MIN_VALUE, Integer.MAX_VALUE};
        for (int ticks : wrong) {
            Check.refused(ticks + " ticks at 50000", Chips::last, Check.INVALID, x -> x.tick(ticks));
        }
    }

    private static void undo() {
        Check.refused("undo of nothing", Chips::fresh, Check.NOT_POSSIBLE, WokenRooms::undo);
        Check.refused("undo behind the last state", RefusedTest::allUndone, Check.NOT_POSSIBLE, WokenRooms::undo);
    }

    private static WokenRooms allUndone() {
        WokenRooms x = Chips.busy();
        for (int left = 3; left >= 0; left--) {
            Check.due("undo", x.undo(), left);
        }
        return x;
    }

    private static void type() {
        Check.refused("a 61st character", Chips::fullOfLogic, Check.LIMIT, x -> x.type(';'));
        int[] ends = {32, 126};
        for (int character : ends) {
            Check.refused("a 61st character", Chips::fullOfLogic, Check.LIMIT, x -> x.type(character));
        }
        int[] wrong = {31, 127, -1, Integer.MIN_VALUE, Integer.MAX_VALUE};
        for (int character : wrong) {
            Check.refused("a wrong 61st character", Chips::fullOfLogic, Check.INVALID, x -> x.type(character));
        }
    }

    /** The chip of rooms in all states, with another text. */
    private static WokenRooms busyWith(String text) {
        WokenRooms x = Chips.busy();
        Check.write(x, text);
        return x;
    }

    private static void play() {
        String[] faulty = {"w0;w0;", "t1;t0;", "u0,9,1;s0", "t5;w4;", "x", ";", "s2;s2;", "u0,1,1;u0,999,1;t9;u7,1,1;",
            "u0,1,1;u0,1,1;u0,1,1;u0,1,1;u0,1,1;u0,1,1;"};
        for (String text : faulty) {
            Check.refused("play of " + text, () -> busyWith(text), Check.NOT_POSSIBLE, WokenRooms::play);
        }
        Check.refused("play at 50000", Chips::last, Check.NOT_POSSIBLE, WokenRooms::play);
    }

    /** "If there is no room, rail or planned use with a certain number, this is INVALID_ARGUMENT." */
    private static void numbersOfNothing() {
        Check.refused("unplug", Chips::fresh, Check.INVALID, x -> x.unplug(0));
        Check.refused("need", Chips::fresh, Check.INVALID, x -> x.need(0, -1));
        Check.refused("plug", Chips::fresh, Check.INVALID, x -> x.plug(0, 0));
        Check.refused("policy", Chips::fresh, Check.INVALID, x -> x.policy(0, 0, 0));
        Check.refused("roomOf", Chips::fresh, Check.INVALID, x -> x.roomOf(0, 2));
        Check.refused("costOf", Chips::fresh, Check.INVALID, x -> x.costOf(0, 0));
        Check.refused("use", Chips::fresh, Check.INVALID, x -> x.use(0, 0, 1));
        Check.refused("useOf", Chips::fresh, Check.INVALID, x -> x.useOf(0, 0));
        Check.refused("wake", Chips::fresh, Check.INVALID, x -> x.wake(0));
        Check.refused("sleep", Chips::fresh, Check.INVALID, x -> x.sleep(0));
        Check.refused("energy", Chips::fresh, Check.INVALID, x -> x.energy(0, 0));
        Check.refused("lateBits", Chips::fresh, Check.INVALID, x -> x.lateBits(0));
        Check.refused("worthBits", Chips::fresh, Check.INVALID, x -> x.worthBits(0));
        Check.refused("bestTimeOut", Chips::fresh, Check.INVALID, x -> x.bestTimeOut(0, 1, 0));
        Check.refused("beginsIn", Chips::fresh, Check.INVALID, x -> x.beginsIn(0));
        Check.refused("pluggedAt", Chips::fresh, Check.INVALID, x -> x.pluggedAt(2, 0));
        Check.refused("an index below 0 of an empty rail", Chips::fresh, Check.INVALID, x -> x.pluggedAt(0, -1));
        Check.refused("no rail, and not so many", Chips::fresh, Check.INVALID, x -> x.pluggedAt(2, 9));
        Check.refused("what 3 without a fault", Chips::fresh, Check.INVALID, x -> x.fault(3));
        Check.refused("what -1 without a fault", Chips::fresh, Check.INVALID, x -> x.fault(-1));
    }

    private static void questionsWithoutAValue() {
        Check.refused("needs none", Chips::busy, Check.NOT_FOUND, x -> x.roomOf(0, 2));
        Check.refused("plugged into none", Chips::busy, Check.NOT_FOUND, x -> x.roomOf(4, 3));
        Check.refused("no gap", Chips::busy, Check.NOT_FOUND, x -> x.roomOf(2, 13));
        Check.refused("a fourth room of rail 0", Chips::busy, Check.NOT_FOUND, x -> x.pluggedAt(0, 3));
        Check.refused("a fifth room of rail 0", Chips::fullOfLogic, Check.NOT_FOUND, x -> x.pluggedAt(0, 4));
        Check.refused("the highest index", Chips::busy, Check.NOT_FOUND, x -> x.pluggedAt(0, Integer.MAX_VALUE));
        Check.refused("nothing paid", Chips::fresh, Check.NOT_FOUND, WokenRooms::shareBits);
        Check.refused("none begun", Chips::busy, Check.NOT_FOUND, x -> x.lateBits(0));
        Check.refused("not worth while", RefusedTest::cheapAwake, Check.NOT_FOUND, x -> x.worthBits(0));
        Check.refused("no use to begin", Chips::busy, Check.NOT_FOUND, x -> x.beginsIn(1));
        Check.refused("begins too late", Chips::busy, Check.NOT_FOUND, x -> x.beginsIn(0));
        for (int what = 0; what < 3; what++) {
            int asked = what;
            Check.refused("no fault", Chips::fullOfLogic, Check.NOT_FOUND, x -> x.fault(asked));
        }
        Check.refused("no cause", () -> busyWith("t1;w"), Check.NOT_FOUND, x -> x.fault(2));
    }

    private static WokenRooms cheapAwake() {
        WokenRooms x = new WokenRooms();
        x.room(0, 1, 1, 1, 3, 3);
        return x;
    }

    /** "what would be, which changes nothing", and all other questions. */
    private static void questionsWithAValue() {
        for (int what = 0; what < 14; what++) {
            int asked = what;
            Check.changesNothing("roomOf " + what, Chips::busy, x -> x.roomOf(3, asked));
        }
        for (int what = 0; what < 22; what++) {
            int asked = what;
            Check.changesNothing("count " + what, Chips::busy, x -> x.count(asked));
        }
        for (int what = 0; what < 3; what++) {
            int asked = what;
            Check.changesNothing("ahead " + what, Chips::busy, x -> x.ahead(200, asked));
            Check.changesNothing("ahead of 50000 " + what, Chips::last, x -> x.ahead(200, asked));
            Check.changesNothing("fault " + what, () -> busyWith("w0;t99;s2;w0"), x -> x.fault(asked));
            Check.changesNothing("cause " + what, () -> busyWith("w0;t99;s2;s2;"), x -> x.fault(asked));
            Check.changesNothing("best " + what, Chips::busy, x -> x.bestTimeOut(2, 200, asked % 2));
            Check.changesNothing("best at 50000 " + what, Chips::last, x -> x.bestTimeOut(asked, 200, 0));
            Check.changesNothing("beginsIn at 50000 " + what, Chips::last, x -> x.beginsIn(asked));
        }
        Check.changesNothing("beginsIn", Chips::busy, x -> x.beginsIn(3));
        Check.changesNothing("costOf", Chips::busy, x -> x.costOf(3, 4));
        Check.changesNothing("energy", Chips::busy, x -> x.energy(3, 4));
        Check.changesNothing("pluggedAt", Chips::busy, x -> x.pluggedAt(1, 1));
        Check.changesNothing("useOf", Chips::busy, x -> x.useOf(6, 3));
        Check.changesNothing("shareBits", Chips::busy, WokenRooms::shareBits);
        Check.changesNothing("lateBits", Chips::busy, x -> x.lateBits(3));
        Check.changesNothing("worthBits", Chips::busy, x -> x.worthBits(3));
    }

    /** The calls of type and clearText are not among the changes: but for the text, nothing is another one. */
    private static void textsAreNoChanges() {
        Check.changesNothing("type and clearText", () -> busyWith(""), x -> x.type('w') + x.clearText());
        Check.changesNothing("clearText of an empty text", () -> busyWith(""), WokenRooms::clearText);
        WokenRooms x = Chips.busy();
        x.type('w');
        Check.due("type", x.count(10), 4);
        x.clearText();
        Check.due("clearText", x.count(10), 4);
    }
}
