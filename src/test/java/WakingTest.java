/** Promises 14 to 16: waking, sleeping, ticks. */
public final class WakingTest {
    public static void main(String[] args) {
        promise14Wake();
        promise14Limit();
        promise15Sleep();
        promise16Ranges();
        promise16LastTime();
        promise16NeededIsSought();
        promise16SoughtIsNotPlugged();
        promise16RailIsBusy();
        promise16LateUse();
        promise16OneUseBehindTheOther();
        promise16TimeOut();
        promise16TimeOutsOfNeeds();
        promise16GuessByPlan();
        promise16GuessByGap();
        Check.end();
    }

    private static void promise14Wake() {
        WokenRooms x = new WokenRooms();
        Check.plugged(x, 0, 3);
        Check.plugged(x, 1, 2);
        x.room(0, 1, 1, 1, 1, 1);
        x.need(1, 0);
        Check.due("not ready", x.wake(1), Check.NOT_POSSIBLE);
        Check.due("not plugged", x.wake(2), Check.NOT_POSSIBLE);
        Check.due("wake", x.wake(0), 3);
        Check.due("pays", x.energy(0, 0), 10);
        Check.due("is waking", x.roomOf(0, 1), 1);
        Check.due("waking already", x.wake(0), Check.NOT_POSSIBLE);
        Check.due("needed one is waking", x.wake(1), Check.NOT_POSSIBLE);
        x.tick(3);
        Check.due("awake already", x.wake(0), Check.NOT_POSSIBLE);
        Check.due("ready now", x.wake(1), 2);
        x.tick(2);
        x.sleep(1);
        x.use(0, 5, 9);
        x.tick(1);
        Check.due("in use already", x.wake(0), Check.NOT_POSSIBLE);
        Check.due("needed one is in use", x.wake(1), 2);
        Check.due("no room", x.wake(3), Check.INVALID);
        Check.due("room -1", x.wake(-1), Check.INVALID);
    }

    private static void promise14Limit() {
        WokenRooms x = new WokenRooms();
        for (int i = 0; i < 6; i++) {
            Check.plugged(x, i / 3, 2);
        }
        Check.due("first", x.wake(0), 2);
        Check.due("second", x.wake(2), 2);
        Check.due("third", x.wake(1), Check.NOT_POSSIBLE);
        Check.due("of the other rail", x.wake(3), 2);
        x.limit(0, 3);
        Check.due("third with the limit 3", x.wake(1), 2);
    }

    private static void promise15Sleep() {
        WokenRooms x = new WokenRooms();
        Check.plugged(x, 0, 1);
        Check.plugged(x, 1, 1);
        x.need(1, 0);
        Check.due("asleep", x.sleep(0), Check.NOT_POSSIBLE);
        x.wake(0);
        Check.due("waking", x.sleep(0), Check.NOT_POSSIBLE);
        x.tick(1);
        Check.due("has not idled", x.sleep(0), 0);
        Check.due("is asleep", x.roomOf(0, 1), 0);
        x.wake(0);
        x.tick(1);
        x.wake(1);
        Check.due("the one that needs it is waking", x.sleep(0), Check.NOT_POSSIBLE);
        x.tick(4);
        Check.due("the one that needs it is awake", x.sleep(0), Check.NOT_POSSIBLE);
        x.use(1, 6, 2);
        x.tick(1);
        Check.due("in use", x.sleep(1), Check.NOT_POSSIBLE);
        Check.due("the one that needs it is in use", x.sleep(0), Check.NOT_POSSIBLE);
        x.tick(1);
        Check.due("no more in use", x.sleep(1), 0);
        Check.due("no more needed", x.sleep(0), 6);
        Check.due("no room", x.sleep(2), Check.INVALID);
        Check.due("room -1", x.sleep(-1), Check.INVALID);
    }

    private static void promise16Ranges() {
        WokenRooms x = new WokenRooms();
        Check.due("0", x.tick(0), Check.INVALID);
        Check.due("-1", x.tick(-1), Check.INVALID);
        Check.due("201", x.tick(201), Check.INVALID);
        Check.due("highest int", x.tick(Integer.MAX_VALUE), Check.INVALID);
        Check.due("1", x.tick(1), 0);
        Check.due("200", x.tick(200), 0);
        Check.due("time", x.count(2), 201);
    }

    private static void promise16LastTime() {
        WokenRooms x = new WokenRooms();
        x.room(0, 1, 1, 1, 1, 1);
        Check.ticks(x, 49900);
        Check.due("above 50000", x.tick(101), Check.LIMIT);
        Check.due("out of range", x.tick(201), Check.INVALID);
        Check.due("nothing has changed", x.energy(0, 3), 49900);
        Check.due("to 50000", x.tick(100), 0);
        Check.due("time", x.count(2), 50000);
        Check.due("no more", x.tick(1), Check.LIMIT);
        Check.due("a use at the last time", x.use(0, 50000, 1), 1);
        Check.due("one tick ahead", x.ahead(1, 0), 1);
    }

    private static void promise16NeededIsSought() {
        WokenRooms x = new WokenRooms();
        for (int i = 0; i < 3; i++) {
            Check.plugged(x, 0, 2);
        }
        x.need(1, 0);
        x.need(2, 1);
        x.use(2, 0, 1);
        x.tick(1);
        Check.due("the lowest is waking", x.roomOf(0, 1), 1);
        Check.due("the middle sleeps", x.roomOf(1, 1), 0);
        x.tick(1);
        Check.due("the lowest is awake", x.roomOf(0, 1), 2);
        Check.due("the middle sleeps on", x.roomOf(1, 1), 0);
        x.tick(1);
        Check.due("the middle is waking", x.roomOf(1, 1), 1);
        Check.due("none begins", x.tick(3), 0);
        Check.due("one begins", x.tick(1), 1);
        Check.due("late", x.roomOf(2, 10), 6);
        Check.due("the lowest was woken once", x.roomOf(0, 11), 1);
    }

    private static void promise16SoughtIsNotPlugged() {
        WokenRooms x = new WokenRooms();
        Check.plugged(x, 0, 2);
        x.room(1, 10, 2, 5, 3, 1);
        x.need(1, 0);
        x.use(1, 0, 1);
        x.tick(1);
        Check.due("the one that it needs is woken", x.roomOf(0, 1), 1);
        Check.due("it never is", x.tick(20), 0);
        Check.due("asleep", x.roomOf(1, 1), 0);
        x.plug(1, 1);
        x.tick(1);
        Check.due("until it is plugged", x.roomOf(1, 1), 1);
    }

    private static void promise16RailIsBusy() {
        WokenRooms x = new WokenRooms();
        for (int i = 0; i < 3; i++) {
            Check.plugged(x, 0, 2 + i);
            x.use(i, 0, 1);
        }
        x.tick(1);
        Check.due("the lowest two", x.count(4), 2);
        Check.due("not the third", x.roomOf(2, 1), 0);
        x.tick(1);
        Check.due("a place is free at the end of the tick", x.count(4), 1);
        Check.due("the first begins", x.tick(1), 1);
        Check.due("the third is waking", x.roomOf(2, 4), 3);
    }

    private static void promise16LateUse() {
        WokenRooms x = new WokenRooms();
        Check.plugged(x, 0, 3);
        x.use(0, 2, 4);
        Check.due("not awake in time", x.tick(5), 0);
        Check.due("begins at 5", x.tick(1), 1);
        Check.due("late", x.roomOf(0, 10), 3);
        Check.due("in use", x.roomOf(0, 1), 3);
        x.tick(3);
        Check.due("awake behind its length", x.roomOf(0, 1), 2);
        Check.due("idled for 0", x.roomOf(0, 5), 0);
        Check.due("asleep for 2", x.energy(0, 3), 2);
        Check.due("in use for 4", x.energy(0, 1), 20);
        Check.due("never awake", x.energy(0, 2), 0);
    }

    private static void promise16OneUseBehindTheOther() {
        WokenRooms x = new WokenRooms();
        Check.plugged(x, 0, 1);
        x.wake(0);
        x.use(0, 2, 2);
        x.use(0, 1, 3);
        x.use(0, 1, 1);
        Check.due("at 1, of two the one planned first", x.tick(2), 1);
        Check.due("its length is 3", x.roomOf(0, 4), 2);
        Check.due("at 4", x.tick(3), 1);
        Check.due("the one due at 1", x.roomOf(0, 10), 3);
        Check.due("at 5", x.tick(1), 1);
        Check.due("the one due at 2", x.roomOf(0, 10), 6);
        Check.due("gap", x.roomOf(0, 13), 0);
    }

    private static void promise16TimeOut() {
        WokenRooms x = new WokenRooms();
        Check.plugged(x, 0, 1);
        x.policy(0, 3, 0);
        x.wake(0);
        x.tick(3);
        Check.due("idled for 2", x.roomOf(0, 5), 2);
        x.tick(1);
        Check.due("idled for 3: asleep", x.roomOf(0, 1), 0);
        Check.due("paid awake", x.energy(0, 2), 9);
        x.policy(0, 0, 0);
        x.wake(0);
        x.tick(100);
        Check.due("without a time-out", x.roomOf(0, 5), 99);
        x.policy(0, 5, 0);
        x.tick(1);
        Check.due("longer than the new time-out", x.roomOf(0, 1), 0);
    }

    private static void promise16TimeOutsOfNeeds() {
        WokenRooms x = new WokenRooms();
        Check.plugged(x, 0, 1);
        Check.plugged(x, 0, 1);
        x.need(1, 0);
        x.wake(0);
        x.tick(1);
        x.wake(1);
        x.tick(1);
        x.policy(0, 1, 0);
        x.policy(1, 1, 0);
        x.tick(1);
        Check.due("the lower one comes first, and is needed", x.roomOf(0, 1), 2);
        Check.due("the higher one sleeps", x.roomOf(1, 1), 0);
        x.tick(1);
        Check.due("no more needed", x.roomOf(0, 1), 0);
    }

    private static void promise16GuessByPlan() {
        WokenRooms x = new WokenRooms();
        Check.plugged(x, 0, 3);
        x.policy(0, 0, 1);
        x.use(0, 10, 2);
        x.tick(7);
        Check.due("asleep up to 7", x.roomOf(0, 1), 0);
        x.tick(1);
        Check.due("woken at 7", x.roomOf(0, 1), 1);
        x.tick(2);
        Check.due("begins in time", x.tick(1), 1);
        Check.due("is not late", x.roomOf(0, 10), 0);
    }

    private static void promise16GuessByGap() {
        WokenRooms x = new WokenRooms();
        Check.plugged(x, 0, 2);
        x.policy(0, 1, 2);
        x.use(0, 0, 2);
        x.use(0, 8, 2);
        Check.due("both", x.tick(12), 2);
        // Uses from 2 to 4 and from 10 to 12: the gap is 6, and the guess wakes it at 12 + 6 - 2.
        Check.due("gap", x.roomOf(0, 13), 6);
        x.tick(4);
        Check.due("asleep up to 16", x.roomOf(0, 1), 0);
        x.tick(1);
        Check.due("woken at 16, without a use", x.roomOf(0, 1), 1);
        x.use(0, 18, 1);
        x.tick(2);
        Check.due("begun", x.roomOf(0, 9), 3);
        Check.due("not later than before", x.roomOf(0, 10), 4);
    }
}
