/** Promises 22 to 24: what would be. */
public final class ForecastTest {
    public static void main(String[] args) {
        promise22Ahead();
        promise22EachTick();
        promise22WithoutRooms();
        promise22BeyondTheLastTime();
        promise23BestTimeOut();
        promise23Ranges();
        promise23LowestOfSeveral();
        promise23OtherRoomsPayToo();
        promise24BeginsIn();
        promise24Waits();
        promise24ByNeedsAndGuesses();
        forecastsAreTrue();
        Check.end();
    }

    private static void promise22Ahead() {
        WokenRooms x = new WokenRooms();
        Check.plugged(x, 0, 3);
        x.room(1, 0, 1, 1, 0, 2);
        x.use(0, 2, 4);
        x.use(0, 2, 4);
        x.tick(1);
        // Asleep at 1, woken at 2, uses begin at 5 and 9, awake from 13.
        Check.due("1 tick", x.ahead(1, 0), 1 + 2);
        Check.due("2 ticks", x.ahead(2, 0), 1 + 10 + 4);
        Check.due("5 ticks", x.ahead(5, 0), 1 + 10 + 5 + 10);
        Check.due("14 ticks", x.ahead(14, 0), 1 + 10 + 40 + 6 + 28);
        Check.due("late in 4 ticks", x.ahead(4, 1), 0);
        Check.due("late in 5 ticks", x.ahead(5, 1), 3);
        Check.due("late in 9 ticks", x.ahead(9, 1), 10);
        Check.due("begin in 4 ticks", x.ahead(4, 2), 0);
        Check.due("begin in 8 ticks", x.ahead(8, 2), 1);
        Check.due("begin in 200 ticks", x.ahead(200, 2), 2);
        Check.due("nothing has changed: time", x.count(2), 1);
        Check.due("nothing has changed: uses", x.count(1), 2);
        Check.due("nothing has changed: energy", x.count(7), 3);
        Check.due("nothing has changed: history", x.count(10), 4);
        x.tick(7);
        Check.due("only what is ahead is late", x.ahead(4, 1), 7);
        Check.due("only what is ahead begins", x.ahead(4, 2), 1);
        Check.due("ticks 0", x.ahead(0, 0), Check.INVALID);
        Check.due("ticks 201", x.ahead(201, 0), Check.INVALID);
        Check.due("what 3", x.ahead(1, 3), Check.INVALID);
        Check.due("what -1", x.ahead(1, -1), Check.INVALID);
    }

    /** A use that begins in the last one of the ticks counts, one that begins in the tick behind does not. */
    private static void promise22EachTick() {
        WokenRooms x = new WokenRooms();
        Check.plugged(x, 0, 3);
        x.wake(0);
        x.use(0, 50, 2);
        x.use(0, 50, 5);
        x.use(0, 199, 1);
        x.use(0, 200, 1);
        int[] ticks = {1, 50, 51, 52, 53, 199, 200};
        int[] begin = {0, 0, 1, 1, 2, 2, 3};
        int[] late = {0, 0, 0, 0, 2, 2, 2};
        for (int i = 0; i < ticks.length; i++) {
            Check.due("begin in " + ticks[i], x.ahead(ticks[i], 2), begin[i]);
            Check.due("late in " + ticks[i], x.ahead(ticks[i], 1), late[i]);
        }
        Check.due("waking was paid already", x.ahead(3, 0), 0);
        Check.due("1 tick awake", x.ahead(4, 0), 3);
        Check.due("200 ticks", x.ahead(200, 0), 8 * 5 + 189 * 3);
        x.tick(1);
        Check.due("200 ticks from 1 on", x.ahead(200, 2), 4);
        Check.due("late, the last one too", x.ahead(200, 1), 2);
    }

    private static void promise22WithoutRooms() {
        WokenRooms x = new WokenRooms();
        for (int what = 0; what < 3; what++) {
            Check.due("1 tick", x.ahead(1, what), 0);
            Check.due("200 ticks", x.ahead(200, what), 0);
        }
        x.room(0, 0, 1, 1, 0, 0);
        x.room(1, 500, 20, 50, 50, 20);
        Check.due("1 tick asleep", x.ahead(1, 0), 20);
        Check.due("200 ticks asleep", x.ahead(200, 0), 4000);
    }

    private static void promise22BeyondTheLastTime() {
        WokenRooms x = new WokenRooms();
        Check.plugged(x, 0, 2);
        Check.ticks(x, 50000);
        x.use(0, 50000, 3);
        Check.due("energy", x.ahead(200, 0), 10 + 15 + 195 * 3);
        Check.due("late", x.ahead(200, 1), 2);
        Check.due("begins", x.beginsIn(0), 2);
        // With the time-out 1 it is awake for 1 tick behind the use, then asleep.
        Check.due("best", x.bestTimeOut(0, 200, 0), 1);
        Check.due("best energy", x.bestTimeOut(0, 200, 1), 10 + 15 + 3 + 194);
        WokenRooms y = new WokenRooms();
        Check.plugged(y, 0, 20);
        Check.passTo(y, 49990);
        y.use(0, 49995, 40);
        Check.due("awake at 50015", y.beginsIn(0), 25);
        Check.due("begins", y.ahead(26, 2), 1);
        Check.due("not earlier", y.ahead(25, 2), 0);
        Check.due("late", y.ahead(26, 1), 20);
        Check.due("paid up to 50000", y.ahead(10, 0), 5 + 10);
        Check.due("paid beyond", y.ahead(200, 0), 5 + 10 + 40 * 5 + 135 * 3);
        Check.due("the time-out beyond", y.bestTimeOut(0, 200, 1), 5 + 10 + 40 * 5 + 3 + 134);
    }

    private static void promise23BestTimeOut() {
        WokenRooms x = new WokenRooms();
        x.room(0, 40, 2, 5, 3, 1);
        x.plug(0, 0);
        x.policy(0, 7, 0);
        x.wake(0);
        x.tick(2);
        x.use(0, 2, 1);
        x.use(0, 9, 1);
        x.tick(1);
        // Awake from 3, used at 9: sleeping between would cost 40 and save 2 a tick.
        // Idles at 3, .. 8 are 6 ticks: with a time-out of 7 or more it stays awake up to its use at 9.
        // In the 7 ticks ahead all of those cost 6 * 3 + 5.
        Check.due("up to the use", x.bestTimeOut(0, 7, 1), 23);
        Check.due("no time-out is lowest", x.bestTimeOut(0, 7, 0), 0);
        // Ahead 60 ticks: from 10 on nothing is used, so that 7 is the least that waits for the use;
        // it idles from 10 to 16 awake, and sleeps then.
        Check.due("waits for the use", x.bestTimeOut(0, 60, 0), 7);
        Check.due("its energy", x.bestTimeOut(0, 60, 1), 18 + 5 + 7 * 3 + 46);
        Check.due("2 ticks", x.bestTimeOut(0, 2, 0), 1);
        Check.due("2 ticks' energy", x.bestTimeOut(0, 2, 1), 4);
        Check.due("the time-out is as it was", x.roomOf(0, 6), 7);
    }

    private static void promise23Ranges() {
        WokenRooms x = new WokenRooms();
        x.room(0, 20, 2, 5, 3, 1);
        x.room(0, 20, 2, 5, 3, 2);
        Check.due("nothing to choose", x.bestTimeOut(0, 5, 0), 0);
        Check.due("all rooms pay", x.bestTimeOut(0, 5, 1), 15);
        Check.due("ticks 0", x.bestTimeOut(0, 0, 0), Check.INVALID);
        Check.due("ticks 201", x.bestTimeOut(0, 201, 0), Check.INVALID);
        Check.due("what 2", x.bestTimeOut(0, 5, 2), Check.INVALID);
        Check.due("what -1", x.bestTimeOut(0, 5, -1), Check.INVALID);
        Check.due("no room", x.bestTimeOut(2, 5, 0), Check.INVALID);
        Check.due("room -1", x.bestTimeOut(-1, 5, 0), Check.INVALID);
        // 21 ticks of idling, then a use: only a time-out above 20 or none would wait for it.
        WokenRooms y = new WokenRooms();
        y.room(0, 500, 1, 1, 1, 0);
        y.plug(0, 0);
        y.wake(0);
        y.tick(1);
        y.use(0, 1 + 20, 1);
        Check.due("20 is not enough", y.bestTimeOut(0, 60, 0), 0);
        Check.due("awake all the time", y.bestTimeOut(0, 60, 1), 60);
        Check.due("1 tick", y.bestTimeOut(0, 1, 1), 1);
        y.drop(0);
        y.use(0, 1 + 19, 1);
        Check.due("20 waits", y.bestTimeOut(0, 60, 0), 20);
        Check.due("and sleeps then", y.bestTimeOut(0, 60, 1), 19 + 1 + 20);
    }

    /** Room 0 waits for its use at 9 with a time-out of 8 or more; from then on room 1 keeps it awake up to 40. */
    private static void promise23LowestOfSeveral() {
        WokenRooms x = new WokenRooms();
        x.room(0, 40, 2, 5, 3, 1);
        x.plug(0, 0);
        Check.plugged(x, 1, 2);
        x.need(1, 0);
        x.wake(0);
        x.tick(3);
        x.use(0, 9, 1);
        x.use(1, 10, 28);
        x.policy(1, 1, 0);
        int best = x.bestTimeOut(0, 200, 1);
        Check.due("of several the lowest", x.bestTimeOut(0, 200, 0), 8);
        int[] timeOuts = {8, 9, 20};
        for (int timeOut : timeOuts) {
            x.policy(0, timeOut, 0);
            Check.due("all of them are best", x.ahead(200, 0), best);
        }
        x.policy(0, 7, 0);
        Check.holds("a lower one is worse", x.ahead(200, 0) > best);
        x.policy(0, 0, 0);
        Check.holds("none is worse", x.ahead(200, 0) > best);
        Check.due("the one set is of no account", x.bestTimeOut(0, 200, 0), 8);
        x.policy(0, 99, 0);
        Check.due("nor is a high one", x.bestTimeOut(0, 200, 0), 8);
        WokenRooms y = new WokenRooms();
        y.room(0, 0, 1, 1, 2, 2);
        y.plug(0, 0);
        y.policy(0, 5, 0);
        y.wake(0);
        y.tick(1);
        Check.due("all are best", y.bestTimeOut(0, 200, 0), 0);
        Check.due("their energy", y.bestTimeOut(0, 200, 1), 400);
    }

    /** "by which all rooms would pay least": room 1 can fall asleep only behind room 2, which needs it. */
    private static void promise23OtherRoomsPayToo() {
        WokenRooms x = new WokenRooms();
        Check.plugged(x, 0, 1);
        x.room(0, 0, 1, 1, 50, 0);
        x.plug(1, 0);
        x.room(1, 0, 1, 1, 1, 2);
        x.plug(2, 1);
        x.need(2, 1);
        x.policy(1, 1, 0);
        x.wake(1);
        x.tick(1);
        x.wake(2);
        x.tick(1);
        // Room 2 alone would pay more asleep than awake; room 1 pays 50 a tick up to its sleep.
        Check.due("for all rooms", x.bestTimeOut(2, 10, 0), 1);
        Check.due("their energy", x.bestTimeOut(2, 10, 1), 10 + 1 + 9 * 2 + 2 * 50);
        Check.due("in 1 tick", x.bestTimeOut(2, 1, 0), 0);
        Check.due("its energy", x.bestTimeOut(2, 1, 1), 1 + 1 + 50);
    }

    private static void promise24BeginsIn() {
        WokenRooms x = new WokenRooms();
        Check.plugged(x, 0, 4);
        Check.plugged(x, 0, 4);
        Check.due("no use", x.beginsIn(0), Check.NOT_FOUND);
        x.use(0, 3, 2);
        Check.due("due at 3, and woken then", x.beginsIn(0), 7);
        Check.due("none of the other", x.beginsIn(1), Check.NOT_FOUND);
        x.tick(7);
        Check.due("in the next tick", x.beginsIn(0), 0);
        x.tick(1);
        Check.due("has begun", x.beginsIn(0), Check.NOT_FOUND);
        x.use(0, 8, 1);
        Check.due("behind the one before", x.beginsIn(0), 1);
        x.use(1, 8, 1);
        Check.due("of the other", x.beginsIn(1), 4);
        Check.due("nothing has changed", x.count(2), 8);
        Check.due("no room", x.beginsIn(2), Check.INVALID);
        Check.due("room -1", x.beginsIn(-1), Check.INVALID);
    }

    private static void promise24Waits() {
        WokenRooms x = new WokenRooms();
        Check.plugged(x, 0, 1);
        x.wake(0);
        x.tick(1);
        x.use(0, 1 + 299, 1);
        Check.due("in the last of 300 ticks", x.beginsIn(0), 299);
        x.drop(0);
        x.use(0, 1 + 300, 1);
        Check.due("behind them", x.beginsIn(0), Check.NOT_FOUND);
        WokenRooms y = new WokenRooms();
        y.room(0, 1, 1, 1, 1, 1);
        y.use(0, 0, 1);
        Check.due("plugged into none", y.beginsIn(0), Check.NOT_FOUND);
    }

    private static void promise24ByNeedsAndGuesses() {
        WokenRooms x = new WokenRooms();
        Check.plugged(x, 0, 4);
        Check.plugged(x, 0, 7);
        x.need(1, 0);
        x.use(1, 5, 1);
        Check.due("both are woken when it is due", x.beginsIn(1), 5 + 4 + 7);
        x.policy(1, 0, 1);
        Check.due("both are woken ahead", x.beginsIn(1), 4 + 7);
        x.wake(0);
        Check.due("one is waking already", x.beginsIn(1), 4 + 7);
        x.tick(4);
        Check.due("one is awake", x.beginsIn(1), 7);
        WokenRooms y = new WokenRooms();
        Check.plugged(y, 0, 20);
        y.use(0, 280, 1);
        Check.due("in the last of 300 ticks, and 1", y.beginsIn(0), Check.NOT_FOUND);
        y.tick(1);
        Check.due("in the last of 300 ticks", y.beginsIn(0), 299);
        y.tick(1);
        Check.due("in the one ahead", y.beginsIn(0), 298);
        y.use(0, 300, 1);
        Check.due("of the first use", y.beginsIn(0), 298);
        y.use(0, 2, 1);
        Check.due("of one that is due earlier", y.beginsIn(0), 20);
        y.tick(21);
        Check.due("it has begun: of the next one", y.beginsIn(0), 280 - 23);
        WokenRooms z = new WokenRooms();
        Check.plugged(z, 0, 1);
        z.wake(0);
        z.use(0, 1, 50);
        z.use(0, 2, 9);
        z.tick(2);
        Check.due("behind the use of now", z.beginsIn(0), 49);
        z.tick(49);
        Check.due("in the next tick", z.beginsIn(0), 0);
    }

    /** What is told ahead is what comes when the ticks go by. */
    private static void forecastsAreTrue() {
        for (int ticks = 1; ticks <= 200; ticks += 7) {
            WokenRooms x = Chips.busy();
            int paid = x.count(7);
            int late = x.count(9);
            int aheadPaid = x.ahead(ticks, 0);
            int aheadLate = x.ahead(ticks, 1);
            int aheadBegun = x.ahead(ticks, 2);
            int begins = x.beginsIn(3);
            int begun = x.roomOf(3, 9);
            Check.due("begun", x.tick(ticks), aheadBegun);
            Check.due("paid", x.count(7) - paid, aheadPaid);
            Check.due("late", x.count(9) - late, aheadLate);
            Check.due("begins in", x.roomOf(3, 9) > begun ? 1 : 0, begins < ticks ? 1 : 0);
        }
    }
}
