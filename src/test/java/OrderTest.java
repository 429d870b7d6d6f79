/** Promises 11 and 12, and what promise 7 says of orders and NOW. */
public final class OrderTest {
    private static final long LAST = 8589934591L;
    private static final int AWAY = 2;
    private static final int SOON = 4;
    private static final int LONG = 8;
    private static final int BACK = 16;
    private static final int TIMED = 32;

    public static void main(String[] args) {
        waiting();
        places();
        cancel();
        due();
        obeyedInTheirRow();
        atOnce();
        back();
        backRoundTheEnd();
        sixAtMost();
        edges();
        shortOnes();
        wrongArguments();
        Check.end();
    }

    private static StreamSplitter fresh() {
        StreamSplitter x = new StreamSplitter();
        x.plan(1, 100);
        x.addStream(0, 2, 101);
        x.addStream(0, 134, 102);
        x.writeTables(0);
        x.take();
        return x;
    }

    private static void give(StreamSplitter x, int name, int how, long time, long lengthAndShift) {
        x.writeOrder(102, name, how, time, lengthAndShift);
        x.take();
    }

    private static void moveTo(StreamSplitter x, long time) {
        x.writePiece(101, time, 1, 1, true);
        x.take();
    }

    private static void order(String what, StreamSplitter x, int j, long... want) {
        for (int w = 0; w < want.length; w++) {
            Check.due(what + ": order " + j + " " + w, x.order(0, j, w), want[w]);
        }
    }

    private static void state(String what, StreamSplitter x, int away, int waiting) {
        Check.due(what + ": away", x.programme(0, 5), away);
        Check.due(what + ": wait", x.programme(0, 6), waiting);
    }

    private static void waiting() {
        StreamSplitter x = fresh();
        give(x, -1, AWAY | LONG | BACK | TIMED, 1000, (5L << 33) + 70);
        order("away and back", x, 0, 1005, 4294967295L, 1, 70);
        give(x, 0, LONG | TIMED, LAST, 70);
        order("long, not back", x, 1, LAST, 0, 0, -1);
        give(x, 7, BACK | TIMED, 0, 70);
        order("back, not long", x, 2, 0, 7, 0, -1);
        give(x, 8, LONG | BACK | TIMED, LAST, Long.MAX_VALUE);
        order("round the end", x, 3, (1L << 30) - 2, 8, 0, LAST);
        give(x, 9, LONG | BACK | TIMED, 4, 0);
        order("a length of 0", x, 4, 4, 9, 0, 0);
        order("none such", x, 5, -1, -1, -1, -1);
        order("none below", x, -1, -1, -1, -1, -1);
        state("waiting", x, 0, 5);
        Check.due("no NOW", x.now(0), -1);
    }

    private static void places() {
        StreamSplitter x = fresh();
        for (int name = 1; name <= 7; name++) {
            give(x, name, TIMED, 100 + name, 0);
        }
        state("six wait", x, 0, 6);
        order("the last one", x, 5, 106, 6);
        give(x, 3, AWAY | TIMED, 9, 0);
        state("in place of one with its name", x, 0, 6);
        order("there", x, 2, 9, 3, 1);
        order("the others stay", x, 3, 104, 4, 0);
        give(x, 1, TIMED, 8, 0);
        order("the first one", x, 0, 8, 1, 0);
        state("in its place, too", x, 0, 6);
        x.writePiece(101, -1, 1, 1, false);
        x.take();
        give(x, 1, AWAY | SOON, 0, 0);
        Check.due("orders give up nothing", x.told(8), 0);
    }

    private static void cancel() {
        StreamSplitter x = fresh();
        moveTo(x, 10);
        give(x, 1, TIMED, 100, 0);
        give(x, 2, TIMED, 101, 0);
        give(x, 1, AWAY | SOON | LONG | BACK, 0, 50);
        give(x, 3, TIMED, 102, 0);
        state("two with one name", x, 1, 4);
        order("its contrary is behind all", x, 2, 60, 1, 0, -1);
        give(x, 1, 1 | AWAY | TIMED, 5, 0);
        state("all with the name are gone", x, 1, 2);
        order("first", x, 0, 101, 2);
        order("second", x, 1, 102, 3);
        give(x, 9, 1, 0, 0);
        state("none with this name", x, 1, 2);
    }

    private static void due() {
        StreamSplitter x = fresh();
        give(x, 1, AWAY | TIMED, 1000, 0);
        moveTo(x, 999);
        Check.due("NOW", x.now(0), 999);
        state("one before", x, 0, 1);
        moveTo(x, 1000 + (1L << 32));
        state("half of all times behind", x, 0, 1);
        moveTo(x, 1000 + (1L << 32) - 1);
        state("one less", x, 1, 0);
        give(x, 1, TIMED, LAST, 0);
        moveTo(x, LAST - 1);
        state("before the end of the clock", x, 1, 1);
        moveTo(x, 0);
        state("round the end", x, 0, 0);
        give(x, 1, AWAY | TIMED, 0, 0);
        state("due already, but it waits for a piece", x, 0, 1);
        x.writePiece(101, -1, 1, 1, true);
        x.take();
        state("with a time", x, 0, 1);
        moveTo(x, 0);
        state("at its time itself", x, 1, 0);
    }

    private static void obeyedInTheirRow() {
        StreamSplitter x = fresh();
        give(x, 1, AWAY | TIMED, 300, 0);
        give(x, 2, TIMED, 200, 0);
        give(x, 3, AWAY | TIMED, 900, 0);
        moveTo(x, 400);
        state("the first of the row first, not of the times", x, 0, 1);
        order("the one that is not due", x, 0, 900, 3);
    }

    private static void atOnce() {
        StreamSplitter x = fresh();
        give(x, 1, AWAY | SOON | LONG | BACK, 0, 50);
        state("at once, without NOW no way back", x, 1, 0);
        give(x, 1, 0, 0, 0);
        state("without t", x, 0, 0);
        give(x, 1, TIMED, 500, 0);
        give(x, 1, AWAY | SOON | TIMED, 500, 0);
        state("one that waits with its name stays", x, 1, 1);
        moveTo(x, 100);
        give(x, 2, LONG | BACK, 0, (9L << 33) + 50);
        state("without t, with NOW", x, 0, 2);
        order("NOW and the length, without the shift", x, 1, 150, 2, 1, -1);
        give(x, 2, LONG | SOON | AWAY, 0, 50);
        state("long, not back", x, 1, 2);
    }

    private static void back() {
        StreamSplitter x = fresh();
        give(x, 1, AWAY | LONG | BACK | TIMED, 100, 50);
        give(x, 2, TIMED, 4000, 0);
        moveTo(x, 120);
        state("away, and one for the contrary", x, 1, 2);
        order("behind all others, from the order's time", x, 1, 150, 1, 0, -1);
        moveTo(x, 149);
        state("one before", x, 1, 2);
        moveTo(x, 150);
        state("back", x, 0, 1);
        give(x, 3, AWAY | LONG | BACK | TIMED, 160, 10);
        moveTo(x, 170);
        state("both at one time", x, 0, 1);
        give(x, 3, AWAY | LONG | TIMED, 160, 10);
        moveTo(x, 171);
        state("without back", x, 1, 1);
    }

    private static void backRoundTheEnd() {
        StreamSplitter x = fresh();
        give(x, 1, LONG | BACK | TIMED, LAST, 11);
        moveTo(x, LAST);
        order("the contrary of back is away", x, 0, 10, 1, 1, -1);
        moveTo(x, 9);
        state("not yet", x, 0, 1);
        moveTo(x, 10);
        state("away", x, 1, 0);
        give(x, 1, SOON | LONG | BACK, 0, LAST);
        order("NOW and length round the end", x, 0, 9, 1, 1, -1);
    }

    private static void sixAtMost() {
        StreamSplitter x = fresh();
        moveTo(x, 50);
        for (int name = 1; name <= 6; name++) {
            give(x, name, AWAY | LONG | BACK | TIMED, 100 + name, 1000);
        }
        give(x, 9, AWAY | SOON | LONG | BACK, 0, 5);
        state("obeyed, but no room for its contrary", x, 1, 6);
        moveTo(x, 106);
        state("all are obeyed", x, 1, 6);
        order("first", x, 0, 1101, 1, 0, -1);
        order("last", x, 5, 1106, 6, 0, -1);
        moveTo(x, 1106);
        state("and back", x, 0, 0);
        for (int name = 1; name <= 6; name++) {
            give(x, name, AWAY | LONG | BACK | TIMED, 2000, 1);
        }
        moveTo(x, 2001);
        state("twelve at one time", x, 0, 0);
    }

    /** An order that goes away at once, with a byte changed. */
    private static int[] soonWith(int at, int value) {
        int[] body = Wire.orderHead(0, 1).n(8, 0).bytes(0xD0).n(32, 0).end();
        body[at] = value;
        return Wire.section(body);
    }

    private static void edges() {
        StreamSplitter x = fresh();
        Wire.send(x, Wire.sections(102, 0, soonWith(0, 2), soonWith(3, 1), soonWith(4, 0x80), soonWith(13, 6),
                soonWith(19, 0x90)));
        Check.due("all are good", x.told(6), 7);
        state("none is used", x, 0, 0);
        Wire.send(x, Wire.sections(102, 1, soonWith(19, 0xDF)));
        state("bits that mean nothing", x, 1, 0);
        int[] more = Wire.section(Wire.orderHead(0, 1).n(8, 0).bytes(0x50).n(32, 0).bytes(1, 2, 3).end());
        Wire.send(x, Wire.sections(102, 2, more));
        state("more bytes behind", x, 0, 0);
        int[] zeros = Wire.row().bytes(252, 0, 0, 0).n(7, 0).n(33, 3).n(32, 0).bytes(5).n(32, 6)
                .n(8, 0).bytes(0xE0).n(1, 1).n(6, 0).n(33, 40).n(1, 1).n(6, 0).n(33, 20).n(32, 0).end();
        Wire.send(x, Wire.sections(102, 3, Wire.section(zeros)));
        order("with zeros", x, 0, 43, 6, 1, 20);
    }

    /** An order with less bytes than it should have isn't used; with all it is. */
    private static void cut(String what, int[] body, int away, int waiting) {
        StreamSplitter x = fresh();
        x.writeOrder(102, 5, TIMED, 77, 0);
        x.take();
        Wire.send(x, Wire.sections(102, 1, Wire.section(java.util.Arrays.copyOf(body, body.length - 1))));
        Check.due(what + ": good", x.told(6), 4);
        state(what + ", one byte less", x, 0, 1);
        Wire.send(x, Wire.sections(102, 2, Wire.section(body)));
        state(what + ", whole", x, away, waiting);
    }

    private static void shortOnes() {
        cut("cancel", Wire.orderHead(0, 5).n(8, 255).end(), 0, 0);
        cut("soon", Wire.orderHead(0, 1).n(8, 0).bytes(0xD0).n(32, 0).end(), 1, 1);
        cut("without t", Wire.orderHead(0, 1).n(8, 0).bytes(0xC0).n(8, 0).n(32, 0).end(), 1, 1);
        cut("with t", Wire.orderHead(0, 1).n(8, 0).bytes(0xC0).n(7, 127).n(33, 9).n(32, 0).end(), 0, 2);
        cut("soon and long", Wire.orderHead(0, 1).n(8, 0).bytes(0xF0).n(40, -1).n(32, 0).end(), 1, 1);
        cut("long with t",
                Wire.orderHead(0, 1).n(8, 0).bytes(0xE0).n(7, 127).n(33, 9).n(40, -1).n(32, 0).end(), 0, 2);
        StreamSplitter x = fresh();
        Wire.send(x, Wire.sections(102, 0, Wire.section(new int[] {252, 0, 0, 0, 0, 0, 0, 0})));
        Check.due("the shortest good one", x.told(6), 3);
        state("is nothing", x, 0, 0);
    }

    private static void wrongArguments() {
        StreamSplitter x = fresh();
        Check.illegal("what 4", () -> x.order(0, 0, 4));
        Check.illegal("what -1", () -> x.order(0, 0, -1));
        Check.illegal("what is looked at first", () -> x.order(1, 0, 4));
        Check.outside("order of programme 1", () -> x.order(1, 0, 0));
        Check.outside("order of programme -1", () -> x.order(-1, 0, 0));
        Check.outside("now of programme 1", () -> x.now(1));
        Check.outside("now of programme -1", () -> x.now(-1));
        Check.due("order at the largest", x.order(0, Integer.MAX_VALUE, 0), -1);
    }
}
