/** The sentences of "Texts" in the document's terms, each at its boundaries. */
public final class TextTermsTest {
    private static final int NO_FAULT = Check.NOT_FOUND;
    private static final int BAD_FORM = 1;
    private static final int REFUSED = 2;

    public static void main(String[] args) {
        theLettersOfOrders();
        theSignsBehindNumbers();
        theDigits();
        oneToThreeDigits();
        numbersWithZerosInFront();
        theLastCharacters();
        theFirstFaultCounts();
        ticksOfATextInRange();
        roomsOfATextInRange();
        lengthsOfATextInRange();
        timesOfATextInRange();
        usesOfATextUpToTwelve();
        causesOfRefusedOrders();
        laterOrdersSeeEarlierOnes();
        playOfAllOrders();
        playIsOneChange();
        playOfAFaultyText();
        Check.end();
    }

    /** Eight rooms, all plugged. */
    private static WokenRooms eight() {
        WokenRooms x = new WokenRooms();
        for (int i = 0; i < 8; i++) {
            Check.plugged(x, i % 2, 2);
        }
        return x;
    }

    private static void dueFault(WokenRooms x, String text, int place, int reason, int cause) {
        Check.write(x, text);
        Check.due("place of the fault of " + text, x.fault(0), place);
        Check.due("reason of the fault of " + text, x.fault(1), reason);
        Check.due("cause of the fault of " + text, x.fault(2), cause);
    }

    private static void dueFine(WokenRooms x, String text) {
        dueFault(x, text, NO_FAULT, NO_FAULT, NO_FAULT);
    }

    private static void dueBadForm(WokenRooms x, String text, int place) {
        dueFault(x, text, place, BAD_FORM, Check.NOT_FOUND);
    }

    private static void dueRefused(WokenRooms x, String text, int place, int cause) {
        dueFault(x, text, place, REFUSED, cause);
    }

    private static void theLettersOfOrders() {
        for (char letter = 32; letter <= 126; letter++) {
            WokenRooms x = eight();
            if (letter == 'w' || letter == 't') {
                dueFine(x, "t1;" + letter + "1;");
            } else if (letter == 's') {
                dueRefused(x, "t1;" + letter + "1;", 3, Check.NOT_POSSIBLE);
            } else {
                dueBadForm(x, "t1;" + letter + "1;", 3);
            }
            if (letter == 'u') {
                dueFine(x, "t1;" + letter + "1,1,1;");
            } else {
                dueBadForm(x, "t1;" + letter + "1,1,1;", 3);
            }
        }
    }

    private static void theSignsBehindNumbers() {
        for (char sign = 32; sign <= 126; sign++) {
            WokenRooms x = eight();
            dueByForm(x, "w1" + sign, sign == ';');
            dueByForm(x, "t1" + sign, sign == ';');
            dueByForm(x, "u1,1,1" + sign, sign == ';');
            dueByForm(x, "u1" + sign + "1,1;", sign == ',');
            dueByForm(x, "u1,1" + sign + "1;", sign == ',');
        }
    }

    private static void dueByForm(WokenRooms x, String text, boolean fine) {
        if (fine) {
            dueFine(x, text);
        } else {
            dueBadForm(x, text, 0);
        }
    }

    private static void theDigits() {
        for (char sign = 32; sign <= 126; sign++) {
            // A ";" in a number would end an order of the right form, and the fault would be behind it.
            if (sign == ';') {
                continue;
            }
            boolean digit = '0' <= sign && sign <= '9';
            WokenRooms x = eight();
            dueByForm(x, "t10" + sign + ";", digit);
            dueByForm(x, "t1" + sign + "0;", digit);
            dueByForm(x, "u1," + sign + ",1;", digit);
            dueByForm(x, "u1,9" + sign + ",1;", digit);
            dueByForm(x, "u1,1,1" + sign + ";", digit);
        }
    }

    /** "numbers of 1 to 3 digits" */
    private static void oneToThreeDigits() {
        String[] numbers = {"", "1", "01", "001", "0001", "00001"};
        for (String number : numbers) {
            boolean fine = number.length() >= 1 && number.length() <= 3;
            WokenRooms x = eight();
            x.wake(1);
            x.tick(2);
            dueByForm(x, "t" + number + ";", fine);
            dueByForm(x, "s" + number + ";", fine);
            dueByForm(x, "u" + number + ",1,1;", fine);
            dueByForm(x, "u1," + number + ",1;", fine);
            dueByForm(x, "u1,1," + number + ";", fine);
            x.sleep(1);
            dueByForm(x, "w" + number + ";", fine);
        }
    }

    /** "zeros in front allowed": the number is the same. */
    private static void numbersWithZerosInFront() {
        String[] texts = {"u7,5,9;w1;t3;s1;", "u07,05,09;w01;t03;s01;", "u007,005,009;w001;t003;s001;"};
        for (String text : texts) {
            WokenRooms x = eight();
            Check.write(x, text);
            Check.due("play " + text, x.play(), 4);
            Check.due("room", x.useOf(0, 0), 7);
            Check.due("time", x.useOf(0, 1), 5);
            Check.due("length", x.useOf(0, 2), 9);
            Check.due("time goes by", x.count(2), 3);
            Check.due("woken", x.roomOf(1, 11), 1);
            Check.due("asleep again", x.roomOf(1, 1), 0);
        }
        WokenRooms y = eight();
        Check.write(y, "u0,999,10;u0,100,1;u0,90,50;");
        y.play();
        int[] times = {999, 100, 90};
        int[] lengths = {10, 1, 50};
        for (int i = 0; i < 3; i++) {
            Check.due("time", y.useOf(i, 1), times[i]);
            Check.due("length", y.useOf(i, 2), lengths[i]);
        }
    }

    /** "a text of at most 60 characters": the last of them count. */
    private static void theLastCharacters() {
        String orders = "t1;t1;t1;t1;t1;t1;t1;t1;t1;t1;t1;t1;t1;t1;t1;t1;t1;t1;";
        dueFine(new WokenRooms(), orders + "t1;t1;");
        dueFine(new WokenRooms(), orders + "t001;");
        dueBadForm(new WokenRooms(), orders + "t001;t", 59);
        dueBadForm(new WokenRooms(), orders + "t001;;", 59);
        dueBadForm(new WokenRooms(), orders + "t01;t1", 58);
        dueBadForm(new WokenRooms(), orders + "t1;t01", 57);
        dueBadForm(new WokenRooms(), orders + "t1;t1:", 57);
        dueBadForm(new WokenRooms(), orders + "t00001", 54);
        dueRefused(new WokenRooms(), orders + "t1;t0;", 57, Check.INVALID);
        WokenRooms x = new WokenRooms();
        dueBadForm(x, orders + "t1;t01", 57);
        Check.due("a 61st, which would mend it", x.type(';'), Check.LIMIT);
        Check.due("the fault is there still", x.fault(0), 57);
        dueFine(x, "");
        dueBadForm(x, ";", 0);
        dueBadForm(x, " ", 0);
    }

    private static void theFirstFaultCounts() {
        WokenRooms x = eight();
        dueRefused(x, "w8;x", 0, Check.INVALID);
        dueBadForm(x, "x;w8;", 0);
        dueRefused(x, "t1;s0;w8;", 3, Check.NOT_POSSIBLE);
        dueRefused(x, "t1;w8;s0;", 3, Check.INVALID);
        dueBadForm(x, "t1;t1,;t0;", 3);
        dueBadForm(x, "t1;;", 3);
        dueBadForm(x, "t1; t1;", 3);
        dueBadForm(x, "w0;w1;w2;w3", 9);
        dueBadForm(x, "w0;w0", 3);
        dueRefused(x, "w0;w0;", 3, Check.NOT_POSSIBLE);
    }

    private static void ticksOfATextInRange() {
        WokenRooms x = eight();
        dueRefused(x, "t0;", 0, Check.INVALID);
        dueRefused(x, "t000;", 0, Check.INVALID);
        dueFine(x, "t1;");
        dueFine(x, "t200;");
        dueRefused(x, "t201;", 0, Check.INVALID);
        dueRefused(x, "t999;", 0, Check.INVALID);
        WokenRooms y = new WokenRooms();
        Check.passTo(y, 49800);
        dueFine(y, "t200;");
        dueFine(y, "t199;t1;");
        dueRefused(y, "t199;t2;", 5, Check.LIMIT);
        dueRefused(y, "t200;t1;", 5, Check.LIMIT);
        dueRefused(y, "t200;t0;", 5, Check.INVALID);
        dueRefused(y, "t200;t201;", 5, Check.INVALID);
        y.tick(1);
        dueRefused(y, "t200;", 0, Check.LIMIT);
    }

    private static void roomsOfATextInRange() {
        WokenRooms x = eight();
        dueFine(x, "w7;w0;u7,0,1;u0,0,1;t2;");
        dueRefused(x, "w8;", 0, Check.INVALID);
        dueRefused(x, "s8;", 0, Check.INVALID);
        dueRefused(x, "u8,0,1;", 0, Check.INVALID);
        dueRefused(x, "w999;", 0, Check.INVALID);
        WokenRooms y = new WokenRooms();
        dueRefused(y, "w0;", 0, Check.INVALID);
        dueRefused(y, "s0;", 0, Check.INVALID);
        dueRefused(y, "u0,0,1;", 0, Check.INVALID);
    }

    private static void lengthsOfATextInRange() {
        WokenRooms x = eight();
        dueRefused(x, "u0,0,0;", 0, Check.INVALID);
        dueFine(x, "u0,0,1;");
        dueFine(x, "u0,0,50;");
        dueRefused(x, "u0,0,51;", 0, Check.INVALID);
        dueRefused(x, "u0,0,999;", 0, Check.INVALID);
    }

    /** "due so many ticks from now on" */
    private static void timesOfATextInRange() {
        WokenRooms x = eight();
        Check.passTo(x, 49001);
        dueFine(x, "u0,0,1;");
        dueFine(x, "u0,999,1;");
        dueRefused(x, "t1;u0,999,1;", 3, Check.INVALID);
        dueFine(x, "t1;u0,998,1;");
        Check.write(x, "t1;u0,998,1;t9;u0,0,1;u1,1,2;");
        Check.due("play", x.play(), 5);
        int[] times = {50000, 49011, 49012};
        for (int i = 0; i < 3; i++) {
            Check.due("time of use " + i, x.useOf(i, 1), times[i]);
        }
        WokenRooms y = eight();
        Check.passTo(y, 50000);
        dueFine(y, "u0,0,1;");
        dueRefused(y, "u0,1,1;", 0, Check.INVALID);
    }

    private static void usesOfATextUpToTwelve() {
        WokenRooms x = eight();
        for (int i = 0; i < 6; i++) {
            x.use(0, 99, 1);
        }
        dueFine(x, "u0,9,1;u1,9,1;u2,9,1;u3,9,1;u4,9,1;u5,9,1;");
        dueRefused(x, "u0,9,1;u1,9,1;u2,9,1;u3,9,1;u4,9,1;u5,9,1;u6,9,1;", 42, Check.LIMIT);
        dueRefused(x, "u0,9,1;u1,9,1;u2,9,1;u3,9,1;u4,9,1;u5,9,1;u8,9,1;", 42, Check.INVALID);
        dueFine(x, "w0;u0,1,1;u1,9,1;u2,9,1;u3,9,1;u4,9,1;u5,9,1;t3;u6,9,1;");
        dueRefused(x, "w0;u0,2,1;u1,9,1;u2,9,1;u3,9,1;u4,9,1;u5,9,1;t2;u6,9,1;", 48, Check.LIMIT);
    }

    /** "its cause is then the error code that the call returns for it" */
    private static void causesOfRefusedOrders() {
        WokenRooms x = Chips.busy();
        dueRefused(x, "w1;", 0, Check.NOT_POSSIBLE);
        dueRefused(x, "w4;", 0, Check.NOT_POSSIBLE);
        dueRefused(x, "w5;", 0, Check.NOT_POSSIBLE);
        dueRefused(x, "w7;", 0, Check.INVALID);
        dueRefused(x, "s0;", 0, Check.NOT_POSSIBLE);
        dueRefused(x, "s1;", 0, Check.NOT_POSSIBLE);
        dueRefused(x, "s3;", 0, Check.NOT_POSSIBLE);
        dueRefused(x, "s7;", 0, Check.INVALID);
        dueRefused(x, "u7,1,1;", 0, Check.INVALID);
        dueFine(x, "s2;w0;");
        WokenRooms y = Chips.fullOfLogic();
        y.clearText();
        dueRefused(y, "w2;", 0, Check.NOT_POSSIBLE);
        dueRefused(y, "u0,1,1;", 0, Check.LIMIT);
        dueRefused(y, "u0,1,0;", 0, Check.INVALID);
        dueFine(y, "w5;w6;");
    }

    /** "when those ahead of it are done" */
    private static void laterOrdersSeeEarlierOnes() {
        WokenRooms x = eight();
        dueFine(x, "w0;w2;w1;w3;");
        dueRefused(x, "w0;w2;w4;", 6, Check.NOT_POSSIBLE);
        dueRefused(x, "w0;w2;t1;w4;", 9, Check.NOT_POSSIBLE);
        dueFine(x, "w0;w2;t2;w4;s0;w6;");
        dueRefused(x, "w0;t1;s0;", 6, Check.NOT_POSSIBLE);
        dueFine(x, "w0;t2;s0;w0;");
        dueRefused(x, "u0,0,5;t3;s0;", 10, Check.NOT_POSSIBLE);
        dueRefused(x, "u0,0,5;t6;s0;", 10, Check.NOT_POSSIBLE);
        dueFine(x, "u0,0,5;t7;s0;");
        Check.due("nothing is done", x.count(2) + x.count(4) + x.count(1), 0);
    }

    private static void playOfAllOrders() {
        WokenRooms x = eight();
        Check.write(x, "");
        Check.due("none", x.play(), 0);
        Check.write(x, "t1;");
        Check.due("one", x.play(), 1);
        Check.due("time", x.count(2), 1);
        Check.due("one again, since the text stays", x.play(), 1);
        Check.due("time", x.count(2), 2);
        Check.due("length", x.count(11), 3);
        Check.write(x, "t2;t2;t2;t2;t2;t2;t2;t2;t2;t2;t2;t2;t2;t2;t2;t2;t2;t2;t2;t2;");
        Check.due("twenty", x.play(), 20);
        Check.due("time", x.count(2), 42);
        Check.due("length", x.count(11), 60);
    }

    /** "They are one change, also if there are none." */
    private static void playIsOneChange() {
        String[] texts = {"", "t1;", "w0;w1;t2;s0;s1;u0,0,1;"};
        int[] orders = {0, 1, 6};
        for (int i = 0; i < texts.length; i++) {
            WokenRooms x = eight();
            for (int left = 3; left >= 0; left--) {
                x.undo();
            }
            Check.write(x, texts[i]);
            for (int plays = 1; plays <= 2; plays++) {
                Check.due("play of " + texts[i], x.play(), orders[i]);
                Check.due("states", x.count(10), plays);
            }
            int time = x.count(2);
            Check.due("undo", x.undo(), 1);
            Check.due("the second one is undone", x.count(2), time / 2);
            Check.due("undo", x.undo(), 0);
            Check.due("both are undone", x.count(2) + x.count(1) + x.count(7), 0);
            Check.due("no more", x.undo(), Check.NOT_POSSIBLE);
        }
    }

    private static void playOfAFaultyText() {
        String[] texts = {"t9", "t9;t0;", "t9;w8;", "t9;s0;", "t9;x"};
        for (String text : texts) {
            WokenRooms x = eight();
            x.tick(1);
            Check.write(x, text);
            Check.due("play of " + text, x.play(), Check.NOT_POSSIBLE);
            Check.due("time", x.count(2), 1);
            Check.due("paid", x.count(7), 8);
            Check.due("the text stays", x.count(11), text.length());
        }
    }
}
