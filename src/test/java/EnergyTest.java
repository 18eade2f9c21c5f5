/** Promises 17 to 21: energy, shares, numbers. */
public final class EnergyTest {
    public static void main(String[] args) {
        promise17Energy();
        promise18ShareBits();
        promise18LargeNumbers();
        promise18FromNothingOn();
        promise19LateBits();
        promise19EachLateness();
        promise20WorthBits();
        promise21Count();
        promise20AwakeNextToAsleep();
        promise21EightRooms();
        Check.end();
    }

    private static void promise17Energy() {
        WokenRooms x = new WokenRooms();
        x.room(0, 100, 3, 7, 5, 2);
        x.room(1, 1, 1, 1, 1, 20);
        x.plug(0, 0);
        x.tick(2);
        x.wake(0);
        x.tick(3);
        x.use(0, 6, 4);
        x.tick(6);
        // Asleep for 2 ticks, waking for 3, awake at 5 and at 10, in use from 6 to 10.
        int[] due = {100, 28, 10, 4, 142};
        for (int what = 0; what < 5; what++) {
            Check.due("energy " + what, x.energy(0, what), due[what]);
        }
        Check.due("of the other", x.energy(1, 4), 220);
        Check.due("what 5", x.energy(0, 5), Check.INVALID);
        Check.due("what -1", x.energy(0, -1), Check.INVALID);
        Check.due("no room", x.energy(2, 0), Check.INVALID);
        Check.due("room -1", x.energy(-1, 0), Check.INVALID);
    }

    private static void promise18ShareBits() {
        WokenRooms x = new WokenRooms();
        Check.due("no rooms", x.shareBits(), Check.NOT_FOUND);
        x.room(0, 0, 1, 7, 0, 0);
        x.room(1, 13, 1, 9, 3, 1);
        x.plug(0, 0);
        x.tick(5);
        Check.dueBits("nothing in use", x.shareBits(), 0f);
        x.undo();
        x.undo();
        x.undo();
        x.plug(0, 0);
        x.wake(0);
        x.tick(3);
        Check.due("nothing paid", x.shareBits(), Check.NOT_FOUND);
        WokenRooms y = new WokenRooms();
        y.room(0, 0, 1, 1, 0, 1);
        y.tick(1);
        Check.dueBits("1 paid, asleep", y.shareBits(), 0f);
        x.use(0, 3, 50);
        x.tick(1);
        Check.dueBits("all in use", x.shareBits(), 1f);
        x.room(1, 13, 1, 9, 3, 1);
        for (int i = 1; i < 40; i++) {
            x.tick(1);
            int used = x.energy(0, 1);
            int all = x.count(7);
            Check.dueBits("share " + used + " of " + all, x.shareBits(), (float) ((double) used / all));
        }
        Check.ticks(x, 40000);
        Check.dueBits("a small share", x.shareBits(), (float) (350.0 / x.count(7)));
    }

    /** "both are made doubles": what was paid has more digits than a float here. */
    private static void promise18LargeNumbers() {
        WokenRooms x = new WokenRooms();
        x.limit(0, 4);
        x.limit(1, 4);
        for (int i = 0; i < 8; i++) {
            x.room(i % 2, 499, 1, 49, 50, 0);
            x.plug(i, i % 2);
            x.wake(i);
        }
        x.tick(1);
        x.use(0, 1, 50);
        x.use(1, 7, 33);
        Check.passTo(x, 49900);
        int byFloats = 0;
        for (int i = 0; i < 40; i++) {
            x.tick(1);
            int used = x.energy(0, 1) + x.energy(1, 1);
            int all = x.count(7);
            Check.holds("more than a float holds", all > 1 << 24);
            Check.dueBits("share of " + all, x.shareBits(), (float) ((double) used / (double) all));
            byFloats += Float.floatToIntBits((float) used / (float) all) == x.shareBits() ? 0 : 1;
        }
        Check.holds("floats would answer others", byFloats > 0);
    }

    /** "NOT_FOUND if nothing was paid": the first energy that is paid, by each of the four ways. */
    private static void promise18FromNothingOn() {
        int[][] costs = {{1, 1, 0, 0}, {0, 1, 0, 0}, {0, 1, 1, 0}, {0, 1, 0, 1}};
        for (int way = 0; way < 4; way++) {
            WokenRooms x = new WokenRooms();
            x.room(0, costs[way][0], 1, costs[way][1], costs[way][2], costs[way][3]);
            x.plug(0, 0);
            Check.due("nothing was paid", x.shareBits(), Check.NOT_FOUND);
            if (way < 3) {
                x.wake(0);
            }
            if (way == 1 || way == 2) {
                Check.due("nothing was paid", x.shareBits(), Check.NOT_FOUND);
                x.use(0, way, 1);
                x.tick(1);
                Check.due("nothing was paid", x.shareBits(), Check.NOT_FOUND);
            }
            if (way > 0) {
                x.tick(1);
            }
            Check.due("1 was paid", x.count(7), 1);
            Check.dueBits("way " + way, x.shareBits(), way == 1 ? 1f : 0f);
        }
    }

    private static void promise19LateBits() {
        WokenRooms x = new WokenRooms();
        Check.plugged(x, 0, 1);
        Check.due("none has begun", x.lateBits(0), Check.NOT_FOUND);
        Check.due("no room", x.lateBits(1), Check.INVALID);
        Check.due("room -1", x.lateBits(-1), Check.INVALID);
        x.wake(0);
        x.tick(1);
        x.use(0, 1, 3);
        x.tick(1);
        Check.dueBits("in time", x.lateBits(0), 0f);
        x.use(0, 2, 2);
        x.use(0, 3, 5);
        x.tick(3);
        Check.dueBits("2 of 2", x.lateBits(0), 1f);
        x.tick(3);
        Check.dueBits("5 of 3", x.lateBits(0), 5f / 3f);
        x.use(0, 50000, 1);
        for (int i = 0; i < 5; i++) {
            x.use(0, 8, 50);
        }
        Check.ticks(x, 400);
        Check.due("late", x.roomOf(0, 10), 520);
        Check.dueBits("520 of 8", x.lateBits(0), 520f / 8f);
    }

    /** Room 1 is of no account: one use of it begins late. */
    private static void promise19EachLateness() {
        for (int wakeTime = 1; wakeTime <= 20; wakeTime++) {
            WokenRooms x = new WokenRooms();
            Check.plugged(x, 0, wakeTime);
            Check.plugged(x, 1, 7);
            x.use(0, 0, 1);
            x.use(1, 0, 1);
            Check.due("none has begun", x.lateBits(0), Check.NOT_FOUND);
            x.tick(wakeTime);
            Check.due("none has begun yet", x.lateBits(0), Check.NOT_FOUND);
            x.tick(1);
            Check.dueBits("of one", x.lateBits(0), (float) wakeTime);
            int late = wakeTime;
            for (int begun = 3; begun <= 7; begun += 2) {
                x.use(0, x.count(2), 3);
                x.use(0, x.count(2), 3);
                x.tick(6);
                late += 3;
                Check.dueBits("of " + begun, x.lateBits(0), (float) late / (float) begun);
            }
        }
    }

    private static void promise20WorthBits() {
        WokenRooms x = new WokenRooms();
        x.room(0, 100, 1, 1, 3, 0);
        x.room(0, 0, 1, 1, 50, 20);
        x.room(0, 1, 1, 1, 50, 0);
        x.room(0, 500, 1, 1, 21, 20);
        x.room(0, 500, 1, 1, 20, 20);
        x.room(0, 500, 1, 1, 0, 20);
        Check.dueBits("100 by 3", x.worthBits(0), 100f / 3f);
        Check.dueBits("0 by 30", x.worthBits(1), 0f);
        Check.dueBits("1 by 50", x.worthBits(2), 1f / 50f);
        Check.dueBits("500 by 1", x.worthBits(3), 500f);
        Check.due("the same awake and asleep", x.worthBits(4), Check.NOT_FOUND);
        Check.due("less awake", x.worthBits(5), Check.NOT_FOUND);
        Check.due("no room", x.worthBits(6), Check.INVALID);
        Check.due("room -1", x.worthBits(-1), Check.INVALID);
        for (int cost = 0; cost <= 500; cost += 7) {
            WokenRooms y = new WokenRooms();
            for (int awake = 1; awake <= 8; awake++) {
                y.room(0, cost, 1, 1, awake * 6, 4);
                Check.dueBits("worth", y.worthBits(awake - 1), (float) cost / (float) (awake * 6 - 4));
            }
        }
    }

    private static void promise21Count() {
        WokenRooms x = new WokenRooms();
        for (int i = 0; i < 4; i++) {
            Check.plugged(x, 0, 1 + 4 * i);
        }
        x.room(1, 0, 1, 1, 0, 0);
        x.limit(0, 4);
        x.limit(1, 3);
        x.wake(0);
        x.wake(1);
        x.wake(2);
        x.tick(5);
        x.use(0, 5, 9);
        x.use(3, 50, 1);
        x.use(2, 60, 1);
        x.tick(1);
        x.type('w');
        // Asleep 3 and 4, waking 2, awake 1, in use 0.
        int[] due = {5, 2, 6, 2, 1, 1, 1, 30 + 5 + 12 + 3 + 6, 1, 0, 4, 1};
        for (int what = 0; what < 12; what++) {
            Check.due("count " + what, x.count(what), due[what]);
        }
        Check.due("limit 0", x.count(20), 4);
        Check.due("limit 1", x.count(21), 3);
        x.use(1, 6, 9);
        x.use(1, 6, 9);
        x.tick(12);
        Check.due("begun", x.count(8), 3);
        Check.due("late", x.count(9), 9);
        int[] wrong = {-1, 12, 13, 19, 22, Integer.MAX_VALUE, Integer.MIN_VALUE};
        for (int what : wrong) {
            Check.due("count " + what, x.count(what), Check.INVALID);
        }
    }

    /** "NOT_FOUND if a tick awake costs no more than one asleep" */
    private static void promise20AwakeNextToAsleep() {
        for (int asleep = 0; asleep <= 20; asleep++) {
            WokenRooms x = new WokenRooms();
            x.room(0, 7, 1, 1, asleep, asleep);
            x.room(1, 7, 1, 50, asleep + 1, asleep);
            x.room(0, 500, 20, 1, asleep + 7, asleep);
            x.room(0, 0, 1, 1, asleep + 1, asleep);
            Check.due("no more", x.worthBits(0), Check.NOT_FOUND);
            Check.dueBits("1 more", x.worthBits(1), 7f);
            Check.dueBits("7 more", x.worthBits(2), 500f / 7f);
            Check.dueBits("waking costs nothing", x.worthBits(3), 0f);
            if (asleep > 0) {
                x.room(0, 7, 1, 1, asleep - 1, asleep);
                Check.due("less", x.worthBits(4), Check.NOT_FOUND);
            }
        }
    }

    private static void promise21EightRooms() {
        WokenRooms x = new WokenRooms();
        for (int i = 0; i < 8; i++) {
            Check.plugged(x, i % 2, 1);
            x.use(i, 1, 3);
        }
        x.limit(0, 4);
        x.limit(1, 4);
        x.wake(0);
        x.wake(7);
        Check.due("6 asleep", x.count(3), 6);
        Check.due("2 waking", x.count(4), 2);
        Check.due("paid for waking", x.count(7), 20);
        Check.due("2 begin", x.tick(2), 2);
        Check.due("others are awake", x.count(5), 6);
        Check.due("in use", x.count(6), 2);
        Check.due("6 begin", x.tick(1), 6);
        Check.due("all in use", x.count(6), 8);
        Check.due("late", x.count(9), 6);
        Check.due("begun", x.count(8), 8);
        // Two were used for 2 ticks, six asleep for 1 and used for 1.
        Check.due("paid", x.count(7), 80 + 20 + 6 + 30);
        Check.dueBits("share", x.shareBits(), 50f / 136f);
        Check.due("the last room's part of it", x.energy(7, 4), 20);
        Check.due("ahead", x.ahead(2, 0), 2 * 8 + 6 * 10);
    }
}
