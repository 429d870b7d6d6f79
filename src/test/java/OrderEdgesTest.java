/** The boundary cases of orders, and of promises 11 and 12, a sentence of the document at a time. */
public final class OrderEdgesTest {
    private static final long TIMES = 1L << 33;
    private static final long HALF = 1L << 32;
    private static final int AWAY = 2;
    private static final int SOON = 4;
    private static final int LONG = 8;
    private static final int BACK = 16;
    private static final int TIMED = 32;

    public static void main(String[] args) {
        forTheFirstProgramme();
        byteThree();
        bitThatMustBeZero();
        command();
        shiftBits();
        names();
        cancelAll();
        cancelNone();
        wholeMustBe();
        notAllBits();
        cancelNotAllBits();
        moreThanAllBits();
        atOnce();
        atOnceLeavesOthers();
        timeAndShift();
        inPlaceOfTheFirst();
        sixWait();
        fullInPlace();
        awayOrNot();
        waitsNoMore();
        contraryNeedsBoth();
        contraryNeedsNow();
        contraryTimes();
        contraryAtOnceTimes();
        contraryBehindAll();
        contraryOfSix();
        contraryAtOnceOfSix();
        due();
        dueOnlyWithTime();
        firstOfThese();
        asLongAs();
        nowRefused();
        orderRefused();
        orderLength();
        Check.end();
    }

    private static void give(StreamSplitter x, int name, int how, long time, long lengthAndShift) {
        x.writeOrder(102, name, how, time, lengthAndShift);
        x.take();
    }

    private static void moveTo(StreamSplitter x, long time) {
        x.writePiece(101, time, 1, 1, true);
        x.take();
    }

    private static void order(String what, StreamSplitter x, int j, long... want) {
        for (int w = 0; w < want.length; w++) {
            Check.due(what + ": order " + j + " " + w, x.order(0, j, w), want[w]);
        }
    }

    private static void state(String what, StreamSplitter x, int away, int waiting) {
        Check.due(what + ": away", x.programme(0, 5), away);
        Check.due(what + ": wait", x.programme(0, 6), waiting);
    }

    private static int[] soon() {
        return Wire.orderHead(0, 1).n(8, 0x7F).bytes(0xDF).n(32, -1).end();
    }

    private static void send(StreamSplitter x, int count, int[] body) {
        Wire.send(x, Wire.sections(102, count, Wire.section(body)));
    }

    private static void forTheFirstProgramme() {
        Check.sentence("ORDERS are for the first programme with a plan with this stream.");
        StreamSplitter x = new StreamSplitter();
        x.plan(1, 100);
        x.plan(2, 200);
        x.addStream(1, 134, 102);
        x.plan(3, 300);
        x.addStream(2, 134, 102);
        x.writeTables(0);
        x.take();
        give(x, 1, AWAY | SOON, 0, 0);
        Check.due("not the first one", x.programme(0, 5), 0);
        Check.due("but the first that has it", x.programme(1, 5), 1);
        Check.due("and no other", x.programme(2, 5), 0);
        give(x, 2, TIMED, 5, 0);
        Check.due("what waits, too", x.programme(1, 6), 1);
        Check.due("waits once", x.programme(2, 6), 0);
    }

    private static void byteThree() {
        Check.sentence("Byte 3 must be 0");
        StreamSplitter x = Wire.tuned();
        for (int bit = 0; bit < 8; bit++) {
            send(x, bit, Wire.with(soon(), 3, 1 << bit));
            state("bit " + bit, x, 0, 0);
        }
        Check.due("all are good", x.told(6), 10);
        send(x, 8, soon());
        state("0", x, 1, 0);
    }

    private static void bitThatMustBeZero() {
        Check.sentence("then a bit that must be 0, too, 6 bits");
        StreamSplitter x = Wire.tuned();
        send(x, 0, Wire.with(soon(), 4, 0x80));
        send(x, 1, Wire.with(soon(), 4, 0xFF));
        state("1", x, 0, 0);
        send(x, 2, Wire.with(soon(), 4, 0x7F));
        state("0", x, 1, 0);
        StreamSplitter y = Wire.tuned();
        send(y, 0, Wire.with(soon(), 4, 0));
        state("0, and all the others", y, 1, 0);
    }

    private static void command() {
        Check.sentence("a byte that must be 5");
        StreamSplitter x = Wire.tuned();
        int sent = 0;
        for (int value : new int[] {0, 1, 4, 6, 7, 13, 133, 255}) {
            send(x, sent++, Wire.with(soon(), 13, value));
            state("command " + value, x, 0, 0);
        }
        send(x, sent, Wire.with(soon(), 13, 5));
        state("command 5", x, 1, 0);
    }

    private static void shiftBits() {
        Check.sentence("33 bits SHIFT, 8, 12, 12 bits");
        StreamSplitter x = Wire.tuned();
        long[] shifts = {0, 1, HALF - 1, HALF, HALF + 1, TIMES - 1};
        for (int k = 0; k < shifts.length; k++) {
            int[] body = Wire.orderHead(shifts[k], k).n(8, 0).bytes(0xC0).n(7, 127).n(33, 0).n(32, 0).end();
            send(x, k, body);
            order("shift", x, k, shifts[k], k, 1, -1);
        }
    }

    private static void names() {
        Check.sentence("its name as 0 or more (1)");
        StreamSplitter x = Wire.tuned();
        int[] names = {0, 1, Integer.MAX_VALUE, Integer.MIN_VALUE, -1, -2};
        for (int k = 0; k < names.length; k++) {
            give(x, names[k], TIMED, k, 0);
            order("name", x, k, k, names[k] & 0xFFFFFFFFL);
        }
        give(x, -1, 1, 0, 0);
        order("the one behind it", x, 4, 5, 4294967294L);
        state("all bits of a name count", x, 0, 5);
    }

    /** Orders of names 1, 2, 1, 3, 1 wait; each at once with a way back brings one of its name. */
    private static StreamSplitter several() {
        StreamSplitter x = Wire.tuned();
        moveTo(x, 10);
        give(x, 1, TIMED, 1000, 0);
        give(x, 2, TIMED, 2000, 0);
        give(x, 1, SOON | LONG | BACK, 0, 290);
        give(x, 3, TIMED, 4000, 0);
        give(x, 1, SOON | LONG | BACK, 0, 490);
        state("several", x, 0, 5);
        return x;
    }

    private static void cancelAll() {
        Check.sentence("If cancel is 1, all orders with this name that wait are taken away.");
        StreamSplitter x = several();
        give(x, 1, 1, 0, 0);
        state("all three", x, 0, 2);
        order("first", x, 0, 2000, 2);
        order("second", x, 1, 4000, 3);
        give(x, 3, 1, 0, 0);
        state("one", x, 0, 1);
        order("still the first", x, 0, 2000, 2);
        give(x, 2, 63, 0, 0);
        state("the last one, whatever else how says", x, 0, 0);
        give(x, 2, 1, 0, 0);
        state("none", x, 0, 0);
    }

    private static void cancelNone() {
        Check.sentence("If cancel is 1, all orders with this name that wait are taken away.");
        StreamSplitter x = several();
        give(x, 4, 1, 0, 0);
        give(x, 257, 1, 0, 0);
        give(x, 1 << 24 | 1, 1, 0, 0);
        state("none with these names", x, 0, 5);
        give(x, 5, AWAY | SOON, 0, 0);
        give(x, 5, 1, 0, 0);
        state("away it stays", x, 1, 5);
    }

    private static void wholeMustBe() {
        Check.sentence("bits away, whole (must be 1), long, soon, and 4 more");
        StreamSplitter x = Wire.tuned();
        send(x, 0, Wire.with(soon(), 19, 0x9F));
        state("whole is 0", x, 0, 0);
        send(x, 1, Wire.with(soon(), 19, 0xD0));
        state("whole is 1", x, 1, 0);
        StreamSplitter y = Wire.tuned();
        send(y, 0, Wire.orderHead(0, 1).n(8, 0).bytes(0x80).n(7, 127).n(33, 9).n(32, 0).end());
        state("nor does it wait", y, 0, 0);
        send(y, 1, Wire.orderHead(0, 1).n(8, 0x80).bytes(0x80).end());
        send(y, 2, Wire.orderHead(0, 1).n(8, 0).bytes(0xC0).n(7, 127).n(33, 9).n(32, 0).end());
        state("with whole it does", y, 0, 1);
        send(y, 3, Wire.orderHead(0, 1).n(8, 0x80).bytes(0x80).end());
        state("cancel has no whole", y, 0, 0);
    }

    /** Sends all beginnings of an order, three of them a packet; none is used. */
    private static void cutUp(String what, int[] body, int away, int waiting) {
        StreamSplitter x = Wire.tuned();
        int sent = 0;
        for (int bytes = 8; bytes < body.length; bytes += 3) {
            int[] all = {};
            for (int k = bytes; k < Math.min(bytes + 3, body.length); k++) {
                all = Wire.join(all, Wire.section(Wire.part(body, 0, k)));
            }
            Wire.send(x, Wire.packet(102, true, sent++, Wire.pointed(0, all)));
        }
        Check.due(what + ": good", x.told(6), 2 + body.length - 8);
        state(what + ", not all", x, 0, 0);
        send(x, sent, body);
        state(what + ", all", x, away, waiting);
    }

    private static void notAllBits() {
        Check.sentence("If it has not all these bits, it isn't used.");
        cutUp("soon", soon(), 1, 0);
        cutUp("soon and long", Wire.orderHead(0, 1).n(8, 0).bytes(0xF0).n(40, -1).n(32, -1).end(), 1, 0);
        cutUp("without t", Wire.orderHead(0, 1).n(8, 0).bytes(0xC0).n(8, 127).n(32, -1).end(), 1, 0);
        cutUp("without t, long", Wire.orderHead(0, 1).n(8, 0).bytes(0xE0).n(8, 127).n(40, -1).n(32, -1).end(), 1, 0);
        cutUp("with t", Wire.orderHead(0, 1).n(8, 0).bytes(0xC0).n(40, -1).n(32, -1).end(), 0, 1);
        cutUp("with t, long", Wire.orderHead(0, 1).n(8, 0).bytes(0xE0).n(40, -1).n(40, -1).n(32, -1).end(), 0, 1);
    }

    private static void cancelNotAllBits() {
        Check.sentence("If it has not all these bits, it isn't used.");
        StreamSplitter x = Wire.tuned();
        give(x, 1, TIMED, 5, 0);
        int[] cancel = Wire.orderHead(0, 1).bytes(0x80).end();
        for (int bytes = 8; bytes < 19; bytes += 2) {
            Wire.send(x, Wire.sections(102, bytes / 2 - 3, Wire.section(Wire.part(cancel, 0, bytes)),
                    Wire.section(Wire.part(cancel, 0, Math.min(bytes + 1, 18)))));
        }
        Check.due("all are good", x.told(6), 15);
        state("not all of it", x, 0, 1);
        send(x, 7, cancel);
        state("all of it", x, 0, 0);
    }

    private static void moreThanAllBits() {
        Check.sentence("If it has not all these bits, it isn't used.");
        StreamSplitter x = Wire.tuned();
        send(x, 0, Wire.join(soon(), new int[] {1}));
        state("a byte more", x, 1, 0);
        send(x, 1, Wire.orderHead(0, 1).bytes(0).bytes(0x40).n(7, 127).n(33, 5).n(32, 0).times(100, 9).end());
        state("a hundred more", x, 1, 1);
        send(x, 2, Wire.orderHead(0, 1).bytes(0x80).times(100, 9).end());
        state("of a cancel", x, 1, 0);
    }

    private static void atOnce() {
        Check.sentence("With soon 1 or t 0 it is obeyed at once, at the programme's NOW");
        for (int how : new int[] {0, SOON, TIMED, SOON | TIMED}) {
            StreamSplitter x = Wire.tuned();
            give(x, 1, AWAY | how, 500, 0);
            boolean waits = how == TIMED;
            state("how " + how, x, waits ? 0 : 1, waits ? 1 : 0);
            moveTo(x, 400);
            state("before its time " + how, x, waits ? 0 : 1, waits ? 1 : 0);
        }
    }

    private static void atOnceLeavesOthers() {
        Check.sentence("(others that wait with its name stay)");
        for (int how : new int[] {0, SOON}) {
            StreamSplitter x = Wire.tuned();
            give(x, 1, TIMED, 500, 0);
            give(x, 1, AWAY | how, 0, 0);
            state("it stays", x, 1, 1);
            order("as it was", x, 0, 500, 1, 0, -1);
            moveTo(x, 10);
            give(x, 1, AWAY | how | LONG | BACK, 0, 5);
            state("also with one for the contrary", x, 1, 2);
            order("the first one", x, 0, 500, 1, 0, -1);
            order("its contrary", x, 1, 15, 1, 0, -1);
        }
    }

    private static void timeAndShift() {
        Check.sentence("else it waits, with the time and the shift together modulo 2^33");
        long most = (1L << 30) - 1;
        long[][] pairs = {{0, 0}, {TIMES - 1, 0}, {TIMES - 1, 1}, {TIMES - 1, 2}, {TIMES - most, most},
            {TIMES - most - 1, most}};
        StreamSplitter x = Wire.tuned();
        for (int k = 0; k < pairs.length; k++) {
            give(x, k, TIMED, pairs[k][0], pairs[k][1] << 33);
            order("time and shift", x, k, (pairs[k][0] + pairs[k][1]) % TIMES, k);
        }
        StreamSplitter y = Wire.tuned();
        send(y, 0, Wire.orderHead(TIMES - 1, 1).n(8, 0).bytes(0xC0).n(7, 127).n(33, TIMES - 1).n(32, 0).end());
        order("the largest of both", y, 0, TIMES - 2, 1);
    }

    private static void inPlaceOfTheFirst() {
        Check.sentence("in place of the first one that waits with its name, or behind all others");
        StreamSplitter x = several();
        give(x, 1, AWAY | TIMED | LONG | BACK, 7000, 6);
        state("in place", x, 0, 5);
        order("of the first", x, 0, 7000, 1, 1, 6);
        order("not of the second", x, 2, 300, 1, 1, -1);
        order("not of the third", x, 4, 500, 1, 1, -1);
        give(x, 3, TIMED, 8000, 0);
        order("in the midst", x, 3, 8000, 3, 0, -1);
        give(x, 4, TIMED, 9000, 0);
        state("a new name", x, 0, 6);
        order("is behind all others", x, 5, 9000, 4, 0, -1);
        give(x, 4, AWAY | TIMED, 9001, 0);
        order("and replaced there", x, 5, 9001, 4, 1, -1);
    }

    private static void sixWait() {
        Check.sentence("if less than six wait (else it is left)");
        StreamSplitter x = Wire.tuned();
        for (int name = 1; name <= 8; name++) {
            give(x, name, TIMED, 100 + name, 0);
            state("given " + name, x, 0, Math.min(name, 6));
        }
        for (int j = 0; j < 6; j++) {
            order("the first six", x, j, 101 + j, 1 + j);
        }
        order("no seventh", x, 6, -1, -1, -1, -1);
        give(x, 3, 1, 0, 0);
        give(x, 9, TIMED, 109, 0);
        state("room again", x, 0, 6);
        order("behind all", x, 5, 109, 9);
        order("the next moved up", x, 2, 104, 4);
    }

    private static void fullInPlace() {
        Check.sentence("in place of the first one that waits with its name, or behind all others, if less than six"
                + " wait");
        for (int name = 1; name <= 6; name++) {
            StreamSplitter x = Wire.tuned();
            for (int k = 1; k <= 6; k++) {
                give(x, k, TIMED, 100 + k, 0);
            }
            give(x, name, AWAY | TIMED, 900, 0);
            state("six, in place of " + name, x, 0, 6);
            for (int k = 1; k <= 6; k++) {
                order("place " + k, x, k - 1, k == name ? 900 : 100 + k, k, k == name ? 1 : 0);
            }
        }
    }

    private static void awayOrNot() {
        Check.sentence("To OBEY an order: the programme is away, or not, as it says");
        StreamSplitter x = Wire.tuned();
        int[] says = {0, AWAY, AWAY, 0, 0, AWAY};
        for (int how : says) {
            give(x, 1, SOON | how, 0, 0);
            state("at once", x, how == AWAY ? 1 : 0, 0);
        }
        for (int k = 0; k < says.length; k++) {
            give(x, 1, TIMED | says[k], 100 + k, 0);
            moveTo(x, 100 + k);
            state("at its time", x, says[k] == AWAY ? 1 : 0, 0);
        }
    }

    private static void waitsNoMore() {
        Check.sentence("it waits no more");
        StreamSplitter x = Wire.tuned();
        give(x, 1, AWAY | TIMED, 100, 0);
        give(x, 2, TIMED, 300, 0);
        moveTo(x, 100);
        state("one was obeyed", x, 1, 1);
        order("the other waits", x, 0, 300, 2);
        give(x, 3, SOON, 0, 0);
        moveTo(x, 101);
        state("not a second time", x, 0, 1);
    }

    private static void contraryNeedsBoth() {
        Check.sentence("if back and long are 1");
        for (int how : new int[] {0, LONG, BACK, LONG | BACK}) {
            StreamSplitter x = Wire.tuned();
            moveTo(x, 10);
            boolean both = how == (LONG | BACK);
            give(x, 1, AWAY | SOON | how, 0, 50);
            state("at once with " + how, x, 1, both ? 1 : 0);
            give(x, 1, 1, 0, 0);
            give(x, 2, AWAY | TIMED | how, 20, 50);
            moveTo(x, 20);
            state("at its time with " + how, x, 1, both ? 1 : 0);
        }
    }

    private static void contraryNeedsNow() {
        Check.sentence("(and, at once, there is a NOW)");
        for (int how : new int[] {0, SOON}) {
            StreamSplitter x = Wire.tuned();
            give(x, 1, AWAY | how | LONG | BACK, 0, 50);
            state("no NOW", x, 1, 0);
            moveTo(x, 0);
            state("it comes too late", x, 1, 0);
            give(x, 1, how | LONG | BACK, 0, 50);
            state("NOW is 0", x, 0, 1);
            order("from 0 on", x, 0, 50, 1, 1, -1);
        }
    }

    private static void contraryTimes() {
        Check.sentence("with the time of the order (or NOW) and its length together modulo 2^33.");
        long[][] pairs = {{0, 0}, {0, 1}, {TIMES - 1, 0}, {TIMES - 1, 1}, {TIMES - 1, 2}, {TIMES - 1, TIMES - 1},
            {1, TIMES - 1}, {2, TIMES - 1}, {HALF, HALF}, {HALF, HALF - 1}};
        for (long[] pair : pairs) {
            StreamSplitter x = Wire.tuned();
            give(x, 7, AWAY | TIMED | LONG | BACK, pair[0], pair[1]);
            order("it", x, 0, pair[0], 7, 1, pair[1]);
            // A contrary that were due at once would be gone: NOW is set to a time at which it isn't.
            long end = (pair[0] + pair[1]) % TIMES;
            long now = (pair[0] + Math.min(pair[1], HALF) / 2) % TIMES;
            boolean gone = ((now - end) % TIMES + TIMES) % TIMES < HALF;
            moveTo(x, now);
            state("obeyed " + pair[0] + " " + pair[1], x, gone ? 0 : 1, gone ? 0 : 1);
            order("its contrary " + pair[0] + " " + pair[1], x, 0, gone ? -1 : end, gone ? -1 : 7, gone ? -1 : 0, -1);
        }
    }

    private static void contraryAtOnceTimes() {
        Check.sentence("with the time of the order (or NOW) and its length together modulo 2^33.");
        long[][] pairs = {{0, 0}, {0, TIMES - 1}, {TIMES - 1, 0}, {TIMES - 1, 1}, {TIMES - 1, TIMES - 1},
            {1, TIMES - 1}, {HALF, HALF}, {HALF, HALF - 1}};
        for (long[] pair : pairs) {
            StreamSplitter x = Wire.tuned();
            moveTo(x, pair[0]);
            send(x, 0, Wire.orderHead(9, 7).n(8, 0).bytes(0x70).n(7, 127).n(33, pair[1]).n(32, 0).end());
            state("at once", x, 0, 1);
            order("NOW and length, no shift", x, 0, (pair[0] + pair[1]) % TIMES, 7, 1, -1);
        }
    }

    private static void contraryBehindAll() {
        Check.sentence("an order for the contrary, with its name, neither long, waits then behind all others");
        StreamSplitter x = Wire.tuned();
        give(x, 1, AWAY | TIMED | LONG | BACK, 100, 500);
        give(x, 2, TIMED, 5000, 0);
        give(x, 3, TIMED | LONG | BACK, 120, 70);
        moveTo(x, 150);
        state("two were obeyed", x, 0, 3);
        order("the one that waited", x, 0, 5000, 2, 0, -1);
        order("the first one's contrary", x, 1, 600, 1, 0, -1);
        order("the second one's", x, 2, 190, 3, 1, -1);
        moveTo(x, 200);
        state("which is obeyed", x, 1, 2);
        moveTo(x, 600);
        state("and the other", x, 0, 1);
        order("without more", x, 0, 5000, 2);
    }

    private static void contraryOfSix() {
        Check.sentence("waits then behind all others, if less than six do");
        StreamSplitter x = Wire.tuned();
        for (int name = 1; name <= 6; name++) {
            give(x, name, AWAY | TIMED | LONG | BACK, name == 1 ? 100 : 1000 + name, 5000);
        }
        moveTo(x, 100);
        state("it made room itself", x, 1, 6);
        order("the last", x, 5, 5100, 1, 0, -1);
        order("the first", x, 0, 1002, 2, 1, 5000);
        moveTo(x, 1006);
        state("five more", x, 1, 6);
        order("the first is the one for the contrary", x, 0, 5100, 1, 0, -1);
        order("then the others", x, 1, 6002, 2, 0, -1);
    }

    private static void contraryAtOnceOfSix() {
        Check.sentence("if less than six do");
        for (int others = 4; others <= 6; others++) {
            StreamSplitter x = Wire.tuned();
            moveTo(x, 10);
            for (int name = 1; name <= others; name++) {
                give(x, name, TIMED, 1000 + name, 0);
            }
            give(x, 9, AWAY | SOON | LONG | BACK, 0, 50);
            state("with " + others, x, 1, Math.min(others + 1, 6));
            order("behind them", x, others, others < 6 ? 60 : -1, others < 6 ? 9 : -1);
            give(x, 1, LONG | BACK, 0, 50);
            state("obeyed all the same", x, 0, Math.min(others + 2, 6));
        }
    }

    private static void due() {
        Check.sentence("DUE (NOW less its time, modulo 2^33, is below 2^32)");
        long[] times = {0, 1, 1000, HALF - 1, HALF, HALF + 1, TIMES - 1};
        long[] later = {0, 1, HALF - 1, HALF, HALF + 1, TIMES - 1};
        for (long time : times) {
            for (long less : later) {
                StreamSplitter x = Wire.tuned();
                give(x, 1, AWAY | TIMED, time, 0);
                moveTo(x, (time + less) % TIMES);
                boolean isDue = less < HALF;
                state(less + " behind " + time, x, isDue ? 1 : 0, isDue ? 0 : 1);
            }
        }
    }

    private static void dueOnlyWithTime() {
        Check.sentence("When a piece with a time begins, the NOW of the first programme with a plan with this stream"
                + " becomes its time; then");
        StreamSplitter x = Wire.tuned();
        moveTo(x, 1000);
        give(x, 1, AWAY | TIMED, 500, 0);
        state("it is due when it comes, but waits", x, 0, 1);
        x.writePiece(101, -1, 1, 1, true);
        x.take();
        state("a piece without a time", x, 0, 1);
        x.writePiece(104, 1001, 1, 1, true);
        x.take();
        state("a piece of no stream", x, 0, 1);
        Check.due("NOW stays", x.now(0), 1000);
        moveTo(x, 1000);
        state("the same time again", x, 1, 0);
    }

    private static void firstOfThese() {
        Check.sentence("the first of these is obeyed.");
        StreamSplitter x = Wire.tuned();
        give(x, 1, TIMED, 300, 0);
        give(x, 2, AWAY | TIMED, 200, 0);
        moveTo(x, 400);
        state("the first of the row, not of the times", x, 1, 0);
        StreamSplitter y = Wire.tuned();
        give(y, 1, TIMED, 900, 0);
        give(y, 2, AWAY | TIMED, 200, 0);
        give(y, 3, TIMED, 800, 0);
        moveTo(y, 400);
        state("the first that is due", y, 1, 2);
        order("those that aren't stay in their row", y, 0, 900, 1);
        order("both", y, 1, 800, 3);
    }

    private static void asLongAs() {
        Check.sentence("as long as there is an order that waits and is DUE");
        StreamSplitter x = Wire.tuned();
        give(x, 1, AWAY | TIMED | LONG | BACK, 100, 0);
        give(x, 2, AWAY | TIMED, 100, 0);
        moveTo(x, 100);
        state("the contrary behind all others is the last", x, 0, 0);
        for (int name = 1; name <= 6; name++) {
            give(x, name, (name == 6 ? 0 : AWAY) | TIMED | LONG | BACK, 200, 1);
        }
        moveTo(x, 201);
        state("twelve at one time", x, 1, 0);
    }

    private static void nowRefused() {
        Check.sentence("The NOW of programme k; NONE when it has none. IndexOutOfBoundsException: there is no"
                + " programme k.");
        StreamSplitter none = new StreamSplitter();
        Check.outside("none", () -> none.now(0));
        StreamSplitter x = Wire.tuned();
        for (int k : new int[] {Integer.MIN_VALUE, -1, 1, 4, Integer.MAX_VALUE}) {
            Check.outside("now " + k, () -> x.now(k));
        }
        Check.due("none yet", x.now(0), -1);
        for (long time : new long[] {0, HALF, TIMES - 1, 1}) {
            moveTo(x, time);
            Check.due("now", x.now(0), time);
        }
    }

    private static void orderRefused() {
        Check.sentence("NONE when there is none such. IllegalArgumentException: another what."
                + " IndexOutOfBoundsException: there is no programme k.");
        StreamSplitter none = new StreamSplitter();
        StreamSplitter x = Wire.tuned();
        for (int what : new int[] {Integer.MIN_VALUE, -1, 4, 5, Integer.MAX_VALUE}) {
            Check.illegal("what " + what, () -> x.order(0, 0, what));
            Check.illegal("named first " + what, () -> x.order(1, 0, what));
            Check.illegal("named first, below " + what, () -> x.order(-1, -1, what));
            Check.illegal("with none " + what, () -> none.order(0, 0, what));
        }
        for (int k : new int[] {Integer.MIN_VALUE, -1, 1, 4, Integer.MAX_VALUE}) {
            Check.outside("programme " + k, () -> x.order(k, 0, 0));
            Check.outside("before NONE " + k, () -> x.order(k, 9, 3));
        }
        Check.outside("none", () -> none.order(0, 0, 0));
        Check.due("no order waits", x.order(0, 0, 0), -1);
        give(x, 1, TIMED, 5, 0);
        for (int j : new int[] {Integer.MIN_VALUE, -1, 1, 6, Integer.MAX_VALUE}) {
            for (int what = 0; what < 4; what++) {
                Check.due("order " + j + " " + what, x.order(0, j, what), -1);
            }
        }
        order("the one", x, 0, 5, 1, 0, -1);
    }

    private static void orderLength() {
        Check.sentence("its length if it is long and back, else NONE (3)");
        StreamSplitter x = Wire.tuned();
        give(x, 0, TIMED, 9, 5);
        give(x, 1, TIMED | LONG, 9, 5);
        give(x, 2, TIMED | BACK, 9, 5);
        give(x, 3, TIMED | LONG | BACK, 9, 0);
        give(x, 4, TIMED | LONG | BACK | AWAY, 9, TIMES - 1);
        give(x, 5, TIMED | LONG | BACK | AWAY, 9, HALF);
        long[] lengths = {-1, -1, -1, 0, TIMES - 1, HALF};
        for (int j = 0; j < 6; j++) {
            order("length", x, j, 9, j, j < 4 ? 0 : 1, lengths[j]);
        }
    }
}
