/** Promises 22 to 25: what would be, and the history. */
public final class ForecastTest {
    public static void main(String[] args) {
        promise22Ahead();
        promise22BeyondTheLastTime();
        promise23BestTimeOut();
        promise23Ranges();
        promise24BeginsIn();
        promise24Waits();
        promise25Undo();
        promise25ErrorsAreNoChanges();
        promise25AllChangesCount();
        promise25AllIsRestored();
        promise25OneByOne();
        promise25Guess();
        promise25RoomAgain();
        Check.end();
    }

    private static void promise22Ahead() {
        WokenRooms x = new WokenRooms();
        Check.plugged(x, 0, 3);
        x.room(1, 0, 1, 1, 0, 2);
        x.use(0, 2, 4);
        x.use(0, 2, 4);
        x.tick(1);
        // Asleep at 1, woken at 2, uses begin at 5 and 9, awake from 13.
        Check.due("1 tick", x.ahead(1, 0), 1 + 2);
        Check.due("2 ticks", x.ahead(2, 0), 1 + 10 + 4);
        Check.due("5 ticks", x.ahead(5, 0), 1 + 10 + 5 + 10);
        Check.due("14 ticks", x.ahead(14, 0), 1 + 10 + 40 + 6 + 28);
        Check.due("late in 4 ticks", x.ahead(4, 1), 0);
        Check.due("late in 5 ticks", x.ahead(5, 1), 3);
        Check.due("late in 9 ticks", x.ahead(9, 1), 10);
        Check.due("begin in 4 ticks", x.ahead(4, 2), 0);
        Check.due("begin in 8 ticks", x.ahead(8, 2), 1);
        Check.due("begin in 200 ticks", x.ahead(200, 2), 2);
        Check.due("nothing has changed: time", x.count(2), 1);
        Check.due("nothing has changed: uses", x.count(1), 2);
        Check.due("nothing has changed: energy", x.count(7), 3);
        Check.due("nothing has changed: history", x.count(10), 4);
        x.tick(7);
        Check.due("only what is ahead is late", x.ahead(4, 1), 7);
        Check.due("only what is ahead begins", x.ahead(4, 2), 1);
        Check.due("ticks 0", x.ahead(0, 0), Check.INVALID);
        Check.due("ticks 201", x.ahead(201, 0), Check.INVALID);
        Check.due("what 3", x.ahead(1, 3), Check.INVALID);
        Check.due("what -1", x.ahead(1, -1), Check.INVALID);
    }

    private static void promise22BeyondTheLastTime() {
        WokenRooms x = new WokenRooms();
        Check.plugged(x, 0, 2);
        Check.ticks(x, 50000);
        x.use(0, 50000, 3);
        Check.due("energy", x.ahead(200, 0), 10 + 15 + 195 * 3);
        Check.due("late", x.ahead(200, 1), 2);
        Check.due("begins", x.beginsIn(0), 2);
        // With the time-out 1 it is awake for 1 tick behind the use, then asleep.
        Check.due("best", x.bestTimeOut(0, 200, 0), 1);
        Check.due("best energy", x.bestTimeOut(0, 200, 1), 10 + 15 + 3 + 194);
    }

    private static void promise23BestTimeOut() {
        WokenRooms x = new WokenRooms();
        x.room(0, 40, 2, 5, 3, 1);
        x.plug(0, 0);
        x.policy(0, 7, 0);
        x.wake(0);
        x.tick(2);
        x.use(0, 2, 1);
        x.use(0, 9, 1);
        x.tick(1);
        // Awake from 3, used at 9: sleeping between would cost 40 and save 2 a tick.
        // Idles at 3, .. 8 are 6 ticks: with a time-out of 7 or more it stays awake up to its use at 9.
        // In the 7 ticks ahead all of those cost 6 * 3 + 5.
        Check.due("up to the use", x.bestTimeOut(0, 7, 1), 23);
        Check.due("no time-out is lowest", x.bestTimeOut(0, 7, 0), 0);
        // Ahead 60 ticks: from 10 on nothing is used, so that 7 is the least that waits for the use;
        // it idles from 10 to 16 awake, and sleeps then.
        Check.due("waits for the use", x.bestTimeOut(0, 60, 0), 7);
        Check.due("its energy", x.bestTimeOut(0, 60, 1), 18 + 5 + 7 * 3 + 46);
        Check.due("2 ticks", x.bestTimeOut(0, 2, 0), 1);
        Check.due("2 ticks' energy", x.bestTimeOut(0, 2, 1), 4);
        Check.due("the time-out is as it was", x.roomOf(0, 6), 7);
    }

    private static void promise23Ranges() {
        WokenRooms x = new WokenRooms();
        x.room(0, 20, 2, 5, 3, 1);
        x.room(0, 20, 2, 5, 3, 2);
        Check.due("nothing to choose", x.bestTimeOut(0, 5, 0), 0);
        Check.due("all rooms pay", x.bestTimeOut(0, 5, 1), 15);
        Check.due("ticks 0", x.bestTimeOut(0, 0, 0), Check.INVALID);
        Check.due("ticks 201", x.bestTimeOut(0, 201, 0), Check.INVALID);
        Check.due("what 2", x.bestTimeOut(0, 5, 2), Check.INVALID);
        Check.due("what -1", x.bestTimeOut(0, 5, -1), Check.INVALID);
        Check.due("no room", x.bestTimeOut(2, 5, 0), Check.INVALID);
        Check.due("room -1", x.bestTimeOut(-1, 5, 0), Check.INVALID);
        // 21 ticks of idling, then a use: only a time-out above 20 or none would wait for it.
        WokenRooms y = new WokenRooms();
        y.room(0, 500, 1, 1, 1, 0);
        y.plug(0, 0);
        y.wake(0);
        y.tick(1);
        y.use(0, 1 + 20, 1);
        Check.due("20 is not enough", y.bestTimeOut(0, 60, 0), 0);
        Check.due("awake all the time", y.bestTimeOut(0, 60, 1), 60);
        Check.due("1 tick", y.bestTimeOut(0, 1, 1), 1);
        y.drop(0);
        y.use(0, 1 + 19, 1);
        Check.due("20 waits", y.bestTimeOut(0, 60, 0), 20);
        Check.due("and sleeps then", y.bestTimeOut(0, 60, 1), 19 + 1 + 20);
    }

    private static void promise24BeginsIn() {
        WokenRooms x = new WokenRooms();
        Check.plugged(x, 0, 4);
        Check.plugged(x, 0, 4);
        Check.due("no use", x.beginsIn(0), Check.NOT_FOUND);
        x.use(0, 3, 2);
        Check.due("due at 3, and woken then", x.beginsIn(0), 7);
        Check.due("none of the other", x.beginsIn(1), Check.NOT_FOUND);
        x.tick(7);
        Check.due("in the next tick", x.beginsIn(0), 0);
        x.tick(1);
        Check.due("has begun", x.beginsIn(0), Check.NOT_FOUND);
        x.use(0, 8, 1);
        Check.due("behind the one before", x.beginsIn(0), 1);
        x.use(1, 8, 1);
        Check.due("of the other", x.beginsIn(1), 4);
        Check.due("nothing has changed", x.count(2), 8);
        Check.due("no room", x.beginsIn(2), Check.INVALID);
        Check.due("room -1", x.beginsIn(-1), Check.INVALID);
    }

    private static void promise24Waits() {
        WokenRooms x = new WokenRooms();
        Check.plugged(x, 0, 1);
        x.wake(0);
        x.tick(1);
        x.use(0, 1 + 299, 1);
        Check.due("in the last of 300 ticks", x.beginsIn(0), 299);
        x.drop(0);
        x.use(0, 1 + 300, 1);
        Check.due("behind them", x.beginsIn(0), Check.NOT_FOUND);
        WokenRooms y = new WokenRooms();
        y.room(0, 1, 1, 1, 1, 1);
        y.use(0, 0, 1);
        Check.due("plugged into none", y.beginsIn(0), Check.NOT_FOUND);
    }

    private static void promise25Undo() {
        WokenRooms x = new WokenRooms();
        Check.due("empty", x.undo(), Check.NOT_POSSIBLE);
        Check.plugged(x, 0, 2);
        x.use(0, 1, 2);
        x.type('t');
        x.tick(2);
        x.tick(3);
        Check.due("4 are kept", x.count(10), 4);
        x.policy(0, 5, 1);
        Check.due("the oldest is dropped", x.count(10), 4);
        Check.due("undo policy", x.undo(), 3);
        Check.due("time-out", x.roomOf(0, 6), 0);
        Check.due("time", x.count(2), 5);
        Check.due("begun", x.count(8), 1);
        Check.due("undo tick 3", x.undo(), 2);
        Check.due("time before", x.count(2), 2);
        Check.due("waking", x.roomOf(0, 4), 1);
        Check.due("undo tick 2", x.undo(), 1);
        Check.due("asleep", x.roomOf(0, 1), 0);
        Check.due("nothing paid", x.count(7), 0);
        Check.due("undo use", x.undo(), 0);
        Check.due("no use", x.count(1), 0);
        Check.due("plugged still", x.roomOf(0, 3), 0);
        Check.due("no more", x.undo(), Check.NOT_POSSIBLE);
        Check.due("the text stays", x.count(11), 1);
        x.tick(1);
        Check.due("goes on", x.count(10), 1);
    }

    private static void promise25ErrorsAreNoChanges() {
        WokenRooms x = new WokenRooms();
        x.room(0, 1, 1, 1, 1, 1);
        x.need(0, 0);
        x.plug(0, 1);
        x.unplug(0);
        x.limit(0, 5);
        x.policy(0, 100, 0);
        x.use(0, -1, 1);
        x.drop(0);
        x.wake(0);
        x.sleep(0);
        x.tick(0);
        x.undo();
        x.type('?');
        x.play();
        Check.due("none was a change", x.count(10), 0);
        x.clearText();
        x.fault(0);
        x.ahead(5, 0);
        Check.due("nor are these", x.undo(), Check.NOT_POSSIBLE);
        Check.due("the room is undone", x.count(0), 0);
    }

    private static void promise25AllChangesCount() {
        WokenRooms x = new WokenRooms();
        x.room(0, 1, 1, 1, 1, 1);
        Check.due("room", x.undo(), 0);
        x.room(0, 1, 1, 1, 1, 1);
        x.need(0, -1);
        Check.due("need that changes nothing", x.undo(), 1);
        x.plug(0, 0);
        Check.due("plug", x.undo(), 1);
        Check.due("is undone", x.unplug(0), Check.NOT_POSSIBLE);
        x.limit(1, 2);
        x.limit(1, 4);
        Check.due("limit", x.undo(), 2);
        Check.due("limit is undone", x.count(21), 2);
        x.undo();
        x.plug(0, 0);
        x.wake(0);
        Check.due("wake", x.undo(), 2);
        Check.due("nothing paid", x.energy(0, 0), 0);
        x.unplug(0);
        Check.due("unplug", x.undo(), 2);
        Check.due("plugged again", x.roomOf(0, 3), 0);
        x.wake(0);
        x.tick(1);
        x.sleep(0);
        Check.due("sleep", x.undo(), 3);
        Check.due("awake", x.roomOf(0, 1), 2);
        x.use(0, 7, 1);
        x.drop(0);
        Check.due("drop", x.undo(), 3);
        Check.due("planned again", x.useOf(0, 1), 7);
    }

    /** Rooms in all states, of which room 0 has begun three uses, and room 4 needs room 1. */
    private static WokenRooms busyChip() {
        WokenRooms x = new WokenRooms();
        for (int i = 0; i < 6; i++) {
            Check.plugged(x, i % 2, 2 + i);
        }
        x.room(1, 77, 20, 49, 48, 19);
        x.need(4, 1);
        x.limit(0, 3);
        x.policy(0, 90, 2);
        x.policy(4, 30, 1);
        x.use(0, 0, 2);
        x.use(0, 6, 2);
        x.use(0, 11, 9);
        x.use(3, 40, 1);
        x.use(4, 50, 2);
        x.wake(1);
        x.tick(14);
        x.wake(2);
        x.wake(3);
        return x;
    }

    /** All that can be asked of a chip but the states in its history. */
    private static String allOf(WokenRooms x) {
        StringBuilder out = new StringBuilder();
        for (int room = 0; room < 8; room++) {
            for (int what = 0; what < 14; what++) {
                out.append(x.roomOf(room, what)).append(' ');
                out.append(x.costOf(room, what)).append(' ');
                out.append(x.energy(room, what)).append(' ');
            }
            out.append(x.lateBits(room)).append(' ').append(x.beginsIn(room)).append('\n');
        }
        for (int number = 0; number < 12; number++) {
            for (int what = 0; what < 4; what++) {
                out.append(x.useOf(number, what)).append(' ');
            }
        }
        for (int what = 0; what < 22; what++) {
            out.append(what == 10 ? 0 : x.count(what)).append(' ');
        }
        return out.append(x.pluggedAt(0, 2)).append(' ').append(x.pluggedAt(1, 2)).toString();
    }

    private static int change(WokenRooms x, int which) {
        switch (which) {
            case 0:
                return x.room(1, 2, 3, 4, 5, 6);
            case 1:
                return x.need(4, 3);
            case 2:
                return x.plug(6, 1);
            case 3:
                return x.unplug(4);
            case 4:
                return x.limit(1, 4);
            case 5:
                return x.policy(2, 4, 1);
            case 6:
                return x.use(5, x.count(2) + 20, 7);
            case 7:
                return x.drop(0);
            case 8:
                return x.wake(4);
            case 9:
                return x.sleep(1);
            case 10:
                return x.tick(60);
            default:
                return x.play();
        }
    }

    /** Each kind of change, undone on a chip whose history is full. */
    private static void promise25AllIsRestored() {
        for (int which = 0; which < 12; which++) {
            WokenRooms x = busyChip();
            Check.write(x, "t200;u2,3,4;");
            String before = allOf(x);
            Check.due("change " + which + " is possible", change(x, which) >= 0 ? 1 : 0, 1);
            Check.due("change " + which + " changes something", before.equals(allOf(x)) ? 1 : 0, 0);
            Check.due("undo of change " + which, x.undo(), 3);
            Check.due("change " + which + " is undone", before.equals(allOf(x)) ? 1 : 0, 1);
        }
    }

    /** Changes in a row, undone one by one up to the fourth. */
    private static void promise25OneByOne() {
        for (int first = 0; first < 12; first++) {
            WokenRooms x = busyChip();
            Check.write(x, "t1;u2,3,4;");
            String[] before = new String[6];
            int[] possible = {first, 4, 5, 6, 10};
            for (int i = 0; i < possible.length; i++) {
                before[i] = allOf(x);
                Check.due("change " + possible[i], change(x, possible[i]) >= 0 ? 1 : 0, 1);
            }
            for (int i = possible.length - 1; i > 0; i--) {
                Check.due("undo " + i, x.undo(), i - 1);
                Check.due("undone " + i, before[i].equals(allOf(x)) ? 1 : 0, 1);
            }
            Check.due("the oldest one was dropped", x.undo(), Check.NOT_POSSIBLE);
        }
    }

    /** The gap and the end of the latest use are restored, by which the guess 2 calls. */
    private static void promise25Guess() {
        WokenRooms x = new WokenRooms();
        Check.plugged(x, 0, 2);
        x.policy(0, 0, 2);
        x.use(0, 0, 2);
        x.use(0, 10, 2);
        x.tick(12);
        Check.due("uses from 2 to 4 and from 10 to 12", x.roomOf(0, 13), 6);
        x.use(0, 12, 3);
        x.tick(1);
        Check.due("a third begins", x.roomOf(0, 13), 0);
        x.undo();
        Check.due("it is undone", x.roomOf(0, 13), 6);
        x.undo();
        x.sleep(0);
        x.tick(4);
        Check.due("called at 12 + 6 - 2", x.roomOf(0, 12), 1);
        x.tick(1);
        Check.due("and woken", x.roomOf(0, 1), 1);
    }

    /** A room whose number belonged to one that is undone has nothing of that one. */
    private static void promise25RoomAgain() {
        WokenRooms x = new WokenRooms();
        Check.plugged(x, 0, 1);
        x.room(0, 9, 9, 9, 9, 9);
        Check.write(x, "t1;");
        x.need(1, 0);
        x.policy(1, 9, 2);
        x.undo();
        x.undo();
        x.undo();
        Check.due("the same number", x.room(1, 1, 2, 3, 4, 5), 1);
        Check.due("kind", x.roomOf(1, 0), 1);
        Check.due("needs none", x.roomOf(1, 2), Check.NOT_FOUND);
        Check.due("no time-out", x.roomOf(1, 6), 0);
        Check.due("no guess", x.roomOf(1, 7), 0);
        Check.due("its own costs", x.costOf(1, 4), 5);
        WokenRooms y = new WokenRooms();
        y.room(0, 9, 2, 9, 9, 9);
        y.plug(0, 0);
        y.policy(0, 9, 2);
        Check.write(y, "u0,0,2;u0,9,3;t20;t200;w0;");
        Check.due("used twice and woken again", y.play(), 5);
        Check.due("used twice", y.roomOf(0, 9), 2);
        for (int left = 3; left >= 0; left--) {
            Check.due("undo", y.undo(), left);
        }
        y.clearText();
        y.room(1, 5, 5, 5, 5, 5);
        WokenRooms fresh = new WokenRooms();
        fresh.room(1, 5, 5, 5, 5, 5);
        Check.due("like a new one", allOf(y).equals(allOf(fresh)) ? 1 : 0, 1);
    }
}
