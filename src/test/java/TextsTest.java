/** Promises 26 to 29: texts. */
public final class TextsTest {
    public static void main(String[] args) {
        promise26Type();
        promise27ClearText();
        promise28Forms();
        promise28BadForms();
        promise28Refused();
        promise28ThoseAheadAreDone();
        promise28OldSigns();
        promise28Full();
        promise28Ranges();
        promise29Play();
        promise29OneChange();
        promise29LastTime();
        Check.end();
    }

    private static void promise26Type() {
        WokenRooms x = new WokenRooms();
        Check.due("31", x.type(31), Check.INVALID);
        Check.due("127", x.type(127), Check.INVALID);
        Check.due("-1", x.type(-1), Check.INVALID);
        Check.due("65536 + 119", x.type(65536 + 119), Check.INVALID);
        for (int i = 1; i <= 60; i++) {
            Check.due("type", x.type(i % 2 == 0 ? 32 : 126), i);
        }
        Check.due("a 61st", x.type(119), Check.LIMIT);
        Check.due("a wrong 61st", x.type(127), Check.INVALID);
        Check.due("length", x.count(11), 60);
        Check.due("no change", x.count(10), 0);
    }

    private static void promise27ClearText() {
        WokenRooms x = new WokenRooms();
        Check.due("empty", x.clearText(), 0);
        x.type('w');
        x.type('0');
        Check.due("2", x.clearText(), 2);
        Check.due("length", x.count(11), 0);
        Check.due("again", x.clearText(), 0);
        Check.due("no fault", x.fault(0), Check.NOT_FOUND);
        Check.due("begins anew", x.type('t'), 1);
        Check.due("no change", x.count(10), 0);
    }

    private static WokenRooms twoRooms() {
        WokenRooms x = new WokenRooms();
        Check.plugged(x, 0, 2);
        Check.plugged(x, 1, 2);
        return x;
    }

    private static void promise28Forms() {
        String[] fine = {"", "w0;", "w000;", "w01;w0;", "t1;", "t200;", "t001;", "u0,0,1;", "u001,999,050;",
            "w0;t2;s0;", "u1,5,50;w1;t3;u0,0,1;"};
        for (String text : fine) {
            WokenRooms x = twoRooms();
            Check.write(x, text);
            for (int what = 0; what < 3; what++) {
                Check.due("fault " + what + " of " + text, x.fault(what), Check.NOT_FOUND);
            }
        }
    }

    private static void promise28BadForms() {
        String[] bad = {"w", "w0", "w;", "w0000;", "w0,", "w0,0;", "w-1;", "w 0;", " w0;", "W0;", ";", "x0;", "s",
            "s0", "sx;", "t", "t1", "t1:", "t;", "t0001;", "t/;", "t:;", "u", "u0", "u0;", "u0,", "u0,1", "u0,1;",
            "u0,1,", "u0,1,1", "u0,,1;", "u,1,1;", "u0,1,;", "u0;1,1;", "u0,1;1;", "u0,1,1,", "u0,1,1,1;",
            "u0000,1,1;", "u0,0001,1;", "u0,1,0001;", "0", ",", "~"};
        for (String text : bad) {
            // The order ahead is fine, so that each fault is at 3.
            WokenRooms x = twoRooms();
            Check.write(x, "t1;" + text);
            Check.due("place in " + text, x.fault(0), 3);
            Check.due("reason in " + text, x.fault(1), 1);
            Check.due("cause in " + text, x.fault(2), Check.NOT_FOUND);
            Check.due("play of " + text, x.play(), Check.NOT_POSSIBLE);
        }
    }

    private static void promise28Refused() {
        String[] refused = {"w2;", "w999;", "s2;", "t0;", "t201;", "t999;", "u2,0,1;", "u0,0,0;", "u0,0,51;"};
        for (String text : refused) {
            WokenRooms x = twoRooms();
            Check.write(x, text + "?");
            Check.due("place in " + text, x.fault(0), 0);
            Check.due("reason in " + text, x.fault(1), 2);
            Check.due("cause in " + text, x.fault(2), Check.INVALID);
        }
        WokenRooms x = twoRooms();
        Check.write(x, "s0;");
        Check.due("cause", x.fault(2), Check.NOT_POSSIBLE);
        for (int i = 0; i < 11; i++) {
            x.use(0, 99, 1);
        }
        Check.write(x, "u0,0,1;u0,0,1;");
        Check.due("place of the thirteenth", x.fault(0), 7);
        Check.due("cause of the thirteenth", x.fault(2), Check.LIMIT);
    }

    private static void promise28ThoseAheadAreDone() {
        WokenRooms x = twoRooms();
        Check.write(x, "w0;w0;");
        Check.due("woken already", x.fault(0), 3);
        Check.write(x, "w0;t1;s0;");
        Check.due("waking still", x.fault(0), 6);
        Check.write(x, "w0;t2;s0;s0;w");
        Check.due("asleep already", x.fault(0), 9);
        Check.due("reason", x.fault(1), 2);
        Check.due("cause", x.fault(2), Check.NOT_POSSIBLE);
        Check.due("nothing is done", x.roomOf(0, 1), 0);
        Check.due("no time goes by", x.count(2), 0);
        Check.due("no change", x.count(10), 4);
        Check.ticks(x, 49990);
        Check.write(x, "t5;u0,5,1;u0,6,1;");
        Check.due("due behind 50000", x.fault(0), 10);
        Check.due("cause of that", x.fault(2), Check.INVALID);
        Check.write(x, "t10;t1;");
        Check.due("behind 50000", x.fault(0), 4);
        Check.due("cause of this", x.fault(2), Check.LIMIT);
    }

    private static void promise28OldSigns() {
        WokenRooms x = twoRooms();
        Check.write(x, "w0;t2;");
        Check.write(x, "w0");
        Check.due("the ; of the text before does not count", x.fault(1), 1);
        Check.write(x, "w");
        Check.due("nor does its digit", x.fault(1), 1);
        Check.write(x, "w0;");
        Check.due("nor do its orders", x.play(), 1);
    }

    private static void promise28Full() {
        WokenRooms x = twoRooms();
        Check.write(x, "t1;t1;t1;t1;t1;t1;t1;t1;t1;t1;t1;t1;t1;t1;t1;t1;t1;t1;t1;t10");
        Check.due("no ; within 60", x.fault(0), 57);
        Check.due("reason", x.fault(1), 1);
        Check.write(x, "t1;t1;t1;t1;t1;t1;t1;t1;t1;t1;t1;t1;t1;t1;t1;t1;t1;t1;t1;u0,");
        Check.due("no digit within 60", x.fault(0), 57);
        Check.write(x, "t1;t1;t1;t1;t1;t1;t1;t1;t1;t1;t1;t1;t1;t1;t1;t1;t1;t1;t01;t");
        Check.due("reason again", x.fault(1), 1);
    }

    private static void promise28Ranges() {
        WokenRooms x = twoRooms();
        Check.due("what 3", x.fault(3), Check.INVALID);
        Check.due("what -1", x.fault(-1), Check.INVALID);
        x.type('w');
        Check.due("what 3 of a fault", x.fault(3), Check.INVALID);
    }

    private static void promise29Play() {
        WokenRooms x = twoRooms();
        Check.due("nothing", x.play(), 0);
        Check.write(x, "u1,3,4;w0;t5;s0;u0,100,2;");
        Check.due("orders", x.play(), 5);
        Check.due("time", x.count(2), 5);
        Check.due("asleep", x.roomOf(0, 1), 0);
        Check.due("woken by its use", x.roomOf(1, 1), 2);
        Check.due("planned from its own time on", x.useOf(1, 1), 105);
        Check.due("the text stays", x.count(11), 25);
        Check.write(x, "t1;w0;w0;");
        Check.due("a fault", x.play(), Check.NOT_POSSIBLE);
        Check.due("no time goes by", x.count(2), 5);
        Check.write(x, "t1;t1;t1;t1;t1;t1;t1;t1;t1;t1;t1;t1;t1;t1;t1;t1;t1;t1;t1;t1;");
        Check.due("20 orders", x.play(), 20);
        Check.due("20 ticks", x.count(2), 25);
    }

    private static void promise29OneChange() {
        WokenRooms x = twoRooms();
        Check.due("4 changes", x.count(10), 4);
        x.undo();
        x.undo();
        x.undo();
        Check.write(x, "t1;t2;t3;");
        x.play();
        Check.due("one more", x.count(10), 2);
        Check.due("undo", x.undo(), 1);
        Check.due("all are undone", x.count(2), 0);
        Check.due("the text stays", x.clearText(), 9);
        Check.due("no orders", x.play(), 0);
        Check.due("are a change too", x.count(10), 2);
        x.type('t');
        x.play();
        Check.due("a fault is none", x.count(10), 2);
    }

    private static void promise29LastTime() {
        WokenRooms x = new WokenRooms();
        Check.write(x, "t200;t200;t200;t200;t200;t200;t200;t200;t200;t200;");
        for (int i = 1; i <= 25; i++) {
            Check.due("play", x.play(), 10);
            Check.due("time", x.count(2), 2000 * i);
        }
        Check.due("no more", x.play(), Check.NOT_POSSIBLE);
        Check.due("at the first", x.fault(0), 0);
        Check.due("cause", x.fault(2), Check.LIMIT);
    }
}
