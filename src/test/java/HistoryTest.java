/** Promise 25, and "Changes and errors" in the document's terms: the history. */
public final class HistoryTest {
    public static void main(String[] args) {
        promise25Undo();
        promise25ErrorsAreNoChanges();
        promise25AllChangesCount();
        promise25AllIsRestored();
        promise25OneByOne();
        promise25Guess();
        promise25RoomAgain();
        atMostFourStates();
        changesBehindUndos();
        theTextIsNotRecorded();
        settingTheSameIsAChange();
        othersAreNoChanges();
        theLastOf512Calls();
        Check.end();
    }

    private static void promise25Undo() {
        WokenRooms x = new WokenRooms();
        Check.due("empty", x.undo(), Check.NOT_POSSIBLE);
        Check.plugged(x, 0, 2);
        x.use(0, 1, 2);
        x.type('t');
        x.tick(2);
        x.tick(3);
        Check.due("4 are kept", x.count(10), 4);
        x.policy(0, 5, 1);
        Check.due("the oldest is dropped", x.count(10), 4);
        Check.due("undo policy", x.undo(), 3);
        Check.due("time-out", x.roomOf(0, 6), 0);
        Check.due("time", x.count(2), 5);
        Check.due("begun", x.count(8), 1);
        Check.due("undo tick 3", x.undo(), 2);
        Check.due("time before", x.count(2), 2);
        Check.due("waking", x.roomOf(0, 4), 1);
        Check.due("undo tick 2", x.undo(), 1);
        Check.due("asleep", x.roomOf(0, 1), 0);
        Check.due("nothing paid", x.count(7), 0);
        Check.due("undo use", x.undo(), 0);
        Check.due("no use", x.count(1), 0);
        Check.due("plugged still", x.roomOf(0, 3), 0);
        Check.due("no more", x.undo(), Check.NOT_POSSIBLE);
        Check.due("the text stays", x.count(11), 1);
        x.tick(1);
        Check.due("goes on", x.count(10), 1);
    }

    private static void promise25ErrorsAreNoChanges() {
        WokenRooms x = new WokenRooms();
        x.room(0, 1, 1, 1, 1, 1);
        x.need(0, 0);
        x.plug(0, 1);
        x.unplug(0);
        x.limit(0, 5);
        x.policy(0, 100, 0);
        x.use(0, -1, 1);
        x.drop(0);
        x.wake(0);
        x.sleep(0);
        x.tick(0);
        x.undo();
        x.type('?');
        x.play();
        Check.due("none was a change", x.count(10), 0);
        x.clearText();
        x.fault(0);
        x.ahead(5, 0);
        Check.due("nor are these", x.undo(), Check.NOT_POSSIBLE);
        Check.due("the room is undone", x.count(0), 0);
    }

    private static void promise25AllChangesCount() {
        WokenRooms x = new WokenRooms();
        x.room(0, 1, 1, 1, 1, 1);
        Check.due("room", x.undo(), 0);
        x.room(0, 1, 1, 1, 1, 1);
        x.need(0, -1);
        Check.due("need that changes nothing", x.undo(), 1);
        x.plug(0, 0);
        Check.due("plug", x.undo(), 1);
        Check.due("is undone", x.unplug(0), Check.NOT_POSSIBLE);
        x.limit(1, 2);
        x.limit(1, 4);
        Check.due("limit", x.undo(), 2);
        Check.due("limit is undone", x.count(21), 2);
        x.undo();
        x.plug(0, 0);
        x.wake(0);
        Check.due("wake", x.undo(), 2);
        Check.due("nothing paid", x.energy(0, 0), 0);
        x.unplug(0);
        Check.due("unplug", x.undo(), 2);
        Check.due("plugged again", x.roomOf(0, 3), 0);
        x.wake(0);
        x.tick(1);
        x.sleep(0);
        Check.due("sleep", x.undo(), 3);
        Check.due("awake", x.roomOf(0, 1), 2);
        x.use(0, 7, 1);
        x.drop(0);
        Check.due("drop", x.undo(), 3);
        Check.due("planned again", x.useOf(0, 1), 7);
    }

    /** One of the calls that are changes, all of which are possible on the busy chip. */
    private static int change(WokenRooms x, int which) {
        switch (which) {
            case 0:
                return x.room(1, 2, 3, 4, 5, 6);
            case 1:
                return x.need(5, 3);
            case 2:
                return x.plug(4, 0);
            case 3:
                return x.unplug(6);
            case 4:
                return x.limit(1, 4);
            case 5:
                return x.policy(0, 4, 1);
            case 6:
                return x.use(5, x.count(2) + 20, 7);
            case 7:
                return x.drop(0);
            case 8:
                return x.wake(0);
            case 9:
                return x.sleep(2);
            case 10:
                return x.tick(60);
            default:
                return x.play();
        }
    }

    /** The busy chip behind some changes, of which some are undone then. */
    private static String behind(int[] changes, int done, int undone) {
        WokenRooms x = Chips.busy();
        Check.write(x, "t2;u2,3,4;w0;t9;");
        for (int i = 0; i < done; i++) {
            Check.holds("change " + changes[i] + " is possible", change(x, changes[i]) >= 0);
            Check.due("the history is full", x.count(10), 4);
        }
        for (int i = 1; i <= undone; i++) {
            Check.due("undo", x.undo(), 4 - i);
            Check.due("states", x.count(10), 4 - i);
        }
        return Check.allOf(x);
    }

    /** "The changes are the calls of ..": each kind is recorded and undone, on a chip whose history is full. */
    private static void promise25AllIsRestored() {
        for (int which = 0; which < 12; which++) {
            int[] changes = {which};
            String before = behind(changes, 0, 0);
            Check.holds("change " + which + " changes something", !before.equals(behind(changes, 1, 0)));
            Check.holds("change " + which + " is undone", before.equals(behind(changes, 1, 1)));
        }
    }

    /** Changes in a row, undone one by one; those ahead of the fourth are undone no more. */
    private static void promise25OneByOne() {
        for (int first = 0; first < 12; first++) {
            int[] changes = {first, first == 4 ? 1 : 4, first == 5 ? 3 : 5, 6, 10};
            String before = behind(changes, 5, 0);
            for (int undone = 0; undone <= 4; undone++) {
                String there = behind(changes, 5 - undone, 0);
                Check.holds("undone " + undone, there.equals(behind(changes, 5, undone)));
                Check.holds("differ", undone == 0 || !there.equals(before));
                before = there;
            }
        }
    }

    /** "A history of at most 4 states is kept .. if there are 5 states then, the oldest one is dropped." */
    private static void atMostFourStates() {
        for (int changes = 0; changes <= 7; changes++) {
            WokenRooms x = new WokenRooms();
            for (int i = 0; i < changes; i++) {
                Check.due("states", x.count(10), Math.min(i, 4));
                Check.due("tick", x.tick(1), 0);
            }
            int states = Math.min(changes, 4);
            Check.due("states", x.count(10), states);
            for (int left = states - 1; left >= 0; left--) {
                Check.due("undo", x.undo(), left);
                Check.due("time", x.count(2), changes - states + left);
            }
            Check.due("no more", x.undo(), Check.NOT_POSSIBLE);
            Check.due("time", x.count(2), changes - states);
            Check.due("states", x.count(10), 0);
        }
    }

    /** What was undone is gone: other changes come behind the states that are left. */
    private static void changesBehindUndos() {
        for (int undone = 0; undone <= 4; undone++) {
            WokenRooms x = new WokenRooms();
            for (int i = 0; i < 6; i++) {
                x.tick(1);
            }
            for (int i = 0; i < undone; i++) {
                x.undo();
            }
            x.tick(100);
            x.tick(100);
            Check.due("states", x.count(10), Math.min(4, 4 - undone + 2));
            Check.due("undo", x.undo(), Math.min(4, 4 - undone + 2) - 1);
            Check.due("time", x.count(2), 6 - undone + 100);
            x.undo();
            Check.due("time", x.count(2), 6 - undone);
            for (int time = 5 - undone; x.count(10) > 0; time--) {
                x.undo();
                Check.due("time", x.count(2), time);
            }
        }
    }

    /** "each change records everything before it but the text" */
    private static void theTextIsNotRecorded() {
        WokenRooms x = new WokenRooms();
        Check.write(x, "t1;");
        x.tick(5);
        Check.write(x, "t2;t");
        Check.due("undo", x.undo(), 0);
        Check.due("the text is as it was", x.count(11), 4);
        Check.due("its fault", x.fault(0), 3);
        x.clearText();
        x.tick(5);
        Check.write(x, "t3;t4;");
        x.play();
        x.clearText();
        x.undo();
        x.undo();
        Check.due("the text is empty", x.count(11), 0);
        Check.due("time", x.count(2), 0);
    }

    /** A call that sets what was set already returns no error: it is a change. */
    private static void settingTheSameIsAChange() {
        for (int which = 0; which < 3; which++) {
            WokenRooms x = new WokenRooms();
            x.room(0, 1, 1, 1, 1, 1);
            x.room(0, 1, 1, 1, 1, 1);
            for (int times = 0; times < 2; times++) {
                int before = which == 0 ? x.need(1, 0) : which == 1 ? x.limit(0, 2) : x.policy(0, 7, 1);
                Check.due("before", before, which == 0 ? times : which == 1 ? 2 : 71 * times);
                Check.due("states", x.count(10), 3 + times);
            }
            Check.due("undo", x.undo(), 3);
            Check.due("set still", x.roomOf(1, 2) + x.count(20) + x.roomOf(0, 6), which == 0 ? 2 : which == 1 ? -2 : 5);
        }
    }

    /** The calls of undo, type and clearText, and all questions, are no changes. */
    private static void othersAreNoChanges() {
        WokenRooms x = new WokenRooms();
        x.limit(0, 1);
        x.limit(0, 3);
        x.limit(0, 4);
        x.undo();
        Check.due("undo is none", x.count(10), 2);
        for (int i = 0; i < 60; i++) {
            x.type('t');
        }
        x.clearText();
        Check.due("type and clearText are none", x.count(10), 2);
        x.fault(0);
        x.ahead(200, 0);
        x.shareBits();
        Check.due("questions are none", x.count(10), 2);
        Check.due("undo", x.undo(), 1);
        Check.due("limit", x.count(20), 1);
    }

    /** "An object is used for at most 512 calls after it has been made" */
    private static void theLastOf512Calls() {
        WokenRooms x = new WokenRooms();
        for (int i = 0; i < 505; i++) {
            Check.due("limit before", x.limit(0, 1 + i % 4), i == 0 ? 2 : 1 + (i - 1) % 4);
        }
        Check.due("room", x.room(0, 1, 1, 1, 1, 1), 0);
        Check.due("plug", x.plug(0, 0), 1);
        Check.due("tick", x.tick(200), 0);
        Check.due("paid", x.count(7), 200);
        Check.due("undo", x.undo(), 3);
        Check.due("undo", x.undo(), 2);
        Check.due("call 512", x.roomOf(0, 3), Check.NOT_FOUND);
    }

    /** The gap and the end of the latest use are restored, by which the guess 2 calls. */
    private static void promise25Guess() {
        WokenRooms x = new WokenRooms();
        Check.plugged(x, 0, 2);
        x.policy(0, 0, 2);
        x.use(0, 0, 2);
        x.use(0, 10, 2);
        x.tick(12);
        Check.due("uses from 2 to 4 and from 10 to 12", x.roomOf(0, 13), 6);
        x.use(0, 12, 3);
        x.tick(1);
        Check.due("a third begins", x.roomOf(0, 13), 0);
        x.undo();
        Check.due("it is undone", x.roomOf(0, 13), 6);
        x.undo();
        x.sleep(0);
        x.tick(4);
        Check.due("called at 12 + 6 - 2", x.roomOf(0, 12), 1);
        x.tick(1);
        Check.due("and woken", x.roomOf(0, 1), 1);
    }

    /** A room whose number belonged to one that is undone has nothing of that one. */
    private static void promise25RoomAgain() {
        WokenRooms x = new WokenRooms();
        Check.plugged(x, 0, 1);
        x.room(0, 9, 9, 9, 9, 9);
        Check.write(x, "t1;");
        x.need(1, 0);
        x.policy(1, 9, 2);
        x.undo();
        x.undo();
        x.undo();
        Check.due("the same number", x.room(1, 1, 2, 3, 4, 5), 1);
        Check.due("kind", x.roomOf(1, 0), 1);
        Check.due("needs none", x.roomOf(1, 2), Check.NOT_FOUND);
        Check.due("no time-out", x.roomOf(1, 6), 0);
        Check.due("no guess", x.roomOf(1, 7), 0);
        Check.due("its own costs", x.costOf(1, 4), 5);
        WokenRooms y = new WokenRooms();
        y.room(0, 9, 2, 9, 9, 9);
        y.plug(0, 0);
        y.policy(0, 9, 2);
        Check.write(y, "u0,0,2;u0,9,3;t20;t200;w0;");
        Check.due("used twice and woken again", y.play(), 5);
        Check.due("used twice", y.roomOf(0, 9), 2);
        for (int left = 3; left >= 0; left--) {
            Check.due("undo", y.undo(), left);
        }
        y.clearText();
        y.room(1, 5, 5, 5, 5, 5);
        WokenRooms fresh = new WokenRooms();
        fresh.room(1, 5, 5, 5, 5, 5);
        Check.holds("like a new one", Check.allOf(y).equals(Check.allOf(fresh)));
    }
}
