/** Counts wrong answers and tells them; the tests share it. */
final class Check {
    static final int INVALID = WokenRooms.INVALID_ARGUMENT;
    static final int NOT_POSSIBLE = WokenRooms.NOT_POSSIBLE;
    static final int LIMIT = WokenRooms.LIMIT_REACHED;
    static final int NOT_FOUND = WokenRooms.NOT_FOUND;

    private static int wrong = 0;

    private Check() {
    }

    /** Makes a chip by some calls, always the same ones. */
    interface Maker {
        WokenRooms make();
    }

    interface Call {
        int on(WokenRooms x);
    }

    interface CallWith {
        int on(WokenRooms x, int argument);
    }

    static void due(String call, long got, long want) {
        if (got != want) {
            wrong++;
            System.out.println(call + " answered " + got + ", due is " + want);
        }
    }

    static void dueBits(String call, int got, float want) {
        due(call, got, Float.floatToIntBits(want));
    }

    static void holds(String what, boolean is) {
        due(what, is ? 1 : 0, 1);
    }

    static void end() {
        if (wrong != 0) {
            System.out.println(wrong + " answers are not as due");
            System.exit(1);
        }
    }

    /** A call that is due to answer an error, behind which nothing has changed. */
    static void refused(String name, Maker maker, int error, Call call) {
        due(name, call.on(maker.make()), error);
        changesNothing(name, maker, call);
    }

    /** All that can be asked, now and behind each undo, is as it is without the call. */
    static void changesNothing(String name, Maker maker, Call call) {
        int states = maker.make().count(10);
        for (int undone = 0; undone <= states; undone++) {
            WokenRooms without = maker.make();
            WokenRooms with = maker.make();
            call.on(with);
            due(name + ": states in the history", with.count(10), states);
            undo(without, undone);
            undo(with, undone);
            sameText(name + " changes nothing, seen behind " + undone + " undos", allOf(with), allOf(without));
        }
    }

    private static void undo(WokenRooms x, int times) {
        for (int i = 0; i < times; i++) {
            x.undo();
        }
    }

    private static void sameText(String what, String got, String want) {
        if (!got.equals(want)) {
            holds(what, false);
            System.out.println("it is\n" + got + "where it was\n" + want);
        }
    }

    /** The argument may be from lowest to highest and nothing else; a wrong one changes nothing. */
    static void range(String name, Maker maker, int lowest, int highest, CallWith call) {
        for (int right = lowest; right <= highest; right += Math.max(1, (highest - lowest) / 7)) {
            holds(name + " " + right + " is in range", call.on(maker.make(), right) != INVALID);
        }
        holds(name + " " + highest + " is in range", call.on(maker.make(), highest) != INVALID);
        int[] wrongOnes = {lowest - 1, highest + 1, Integer.MIN_VALUE, Integer.MAX_VALUE};
        for (int argument : wrongOnes) {
            refused(name + " " + argument, maker, INVALID, x -> call.on(x, argument));
        }
    }

    /** All that can be asked of a chip but the number of states in its history: some 300 calls at most. */
    static String allOf(WokenRooms x) {
        StringBuilder out = new StringBuilder();
        for (int what = 0; what <= 21; what++) {
            if (what != 10 && (what < 12 || what > 19)) {
                out.append(x.count(what)).append(' ');
            }
        }
        out.append(x.shareBits()).append('\n');
        for (int room = 0; room < x.count(0); room++) {
            addRoom(out, x, room);
        }
        for (int number = 0; number < x.count(1); number++) {
            for (int what = 0; what < 4; what++) {
                out.append(x.useOf(number, what)).append(' ');
            }
        }
        for (int index = 0; index < 4; index++) {
            out.append(x.pluggedAt(0, index)).append(' ').append(x.pluggedAt(1, index)).append(' ');
        }
        for (int what = 0; what < 3; what++) {
            out.append(x.ahead(200, what)).append(' ').append(x.fault(what)).append(' ');
        }
        return out.append('\n').toString();
    }

    private static void addRoom(StringBuilder out, WokenRooms x, int room) {
        for (int what = 0; what < 14; what++) {
            out.append(x.roomOf(room, what)).append(' ');
        }
        for (int what = 0; what < 5; what++) {
            out.append(x.costOf(room, what)).append(' ').append(x.energy(room, what)).append(' ');
        }
        out.append(x.lateBits(room)).append(' ').append(x.worthBits(room)).append(' ');
        out.append(x.beginsIn(room)).append('\n');
    }

    /** Adds a room that is plugged into the rail of its kind; waking costs 10 and takes wakeTime ticks. */
    static int plugged(WokenRooms rooms, int kind, int wakeTime) {
        int number = rooms.room(kind, 10, wakeTime, 5, 3, 1);
        rooms.plug(number, kind);
        return number;
    }

    /** Replaces the text. */
    static void write(WokenRooms rooms, String text) {
        rooms.clearText();
        for (int i = 0; i < text.length(); i++) {
            due("type " + text.charAt(i), rooms.type(text.charAt(i)), i + 1);
        }
    }

    /** Lets more ticks go by than one call takes. */
    static void ticks(WokenRooms rooms, int ticks) {
        for (int left = ticks; left > 0; left -= 200) {
            rooms.tick(Math.min(left, 200));
        }
    }

    /** Lets time go by up to a later one, by few calls; the text is empty then. */
    static void passTo(WokenRooms rooms, int time) {
        write(rooms, "t200;t200;t200;t200;t200;t200;t200;t200;t200;t200;t200;t200;");
        while (rooms.count(2) <= time - 2400 && rooms.play() == 12) {
            continue;
        }
        rooms.clearText();
        ticks(rooms, time - rooms.count(2));
        due("time", rooms.count(2), time);
    }
}
