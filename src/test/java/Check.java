/** Counts wrong answers and tells them; the tests share it. */
final class Check {
    static final int INVALID = WokenRooms.INVALID_ARGUMENT;
    static final int NOT_POSSIBLE = WokenRooms.NOT_POSSIBLE;
    static final int LIMIT = WokenRooms.LIMIT_REACHED;
    static final int NOT_FOUND = WokenRooms.NOT_FOUND;

    private static int wrong = 0;

    private Check() {
    }

    static void due(String call, long got, long want) {
        if (got != want) {
            wrong++;
            System.out.println(call + " answered " + got + ", due is " + want);
        }
    }

    static void dueBits(String call, int got, float want) {
        due(call, got, Float.floatToIntBits(want));
    }

    static void end() {
        if (wrong != 0) {
            System.out.println(wrong + " answers are not as due");
            System.exit(1);
        }
    }

    /** Adds a room that is plugged into the rail of its kind; waking costs 10 and takes wakeTime ticks. */
    static int plugged(WokenRooms rooms, int kind, int wakeTime) {
        int number = rooms.room(kind, 10, wakeTime, 5, 3, 1);
        rooms.plug(number, kind);
        return number;
    }

    /** Replaces the text. */
    static void write(WokenRooms rooms, String text) {
        rooms.clearText();
        for (int i = 0; i < text.length(); i++) {
            due("type " + text.charAt(i), rooms.type(text.charAt(i)), i + 1);
        }
    }

    /** Lets more ticks go by than one call takes. */
    static void ticks(WokenRooms rooms, int ticks) {
        for (int left = ticks; left > 0; left -= 200) {
            rooms.tick(Math.min(left, 200));
        }
    }
}
