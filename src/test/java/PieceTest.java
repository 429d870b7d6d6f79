/** Promise 13, and what promise 7 says of pieces. */
public final class PieceTest {
    private static final long LAST = 8589934591L;

    public static void main(String[] args) {
        done();
        sizeNotTold();
        heads();
        times();
        toldSizes();
        givenUp();
        sixteen();
        wrongArguments();
        Check.end();
    }

    private static StreamSplitter fresh() {
        StreamSplitter x = new StreamSplitter();
        x.plan(1, 100);
        x.addStream(0, 2, 101);
        x.addStream(0, 3, 102);
        x.writeTables(0);
        x.take();
        return x;
    }

    private static void piece(String what, StreamSplitter x, int k, long... want) {
        for (int w = 0; w < want.length; w++) {
            Check.due(what + ": piece " + k + " " + w, x.piece(k, w), want[w]);
        }
    }

    private static int[] head(int kind, int n, int flags, int h) {
        return Wire.row().bytes(0, 0, 1, kind).n(16, n).bytes(0x80, flags, h).end();
    }

    private static void counts(String what, StreamSplitter x, int givenUp, int done) {
        Check.due(what + ": given up", x.told(8), givenUp);
        Check.due(what + ": done", x.told(9), done);
    }

    private static void done() {
        StreamSplitter x = fresh();
        Wire.send(x, Wire.packet(101, true, 0, Wire.join(head(224, 5, 0, 0), new int[] {200, 100, 7, 7})));
        piece("what comes behind is left", x, 0, 101, 224, -1, 2, 31 * 200 + 100);
        Wire.send(x, Wire.packet(101, false, 1, Wire.fill(184, 1)));
        piece("and what comes then", x, 0, 101, 224, -1, 2, 31 * 200 + 100);
        Wire.send(x, Wire.packet(102, true, 0, Wire.join(head(0, 3 + 200, 0, 0), Wire.fill(175, 255))));
        counts("not yet", x, 0, 1);
        Wire.send(x, Wire.packet(101, true, 2, Wire.join(head(1, 4, 0, 0), Wire.fill(175, 1))));
        Wire.send(x, Wire.packet(102, false, 1, Wire.fill(24, 255)));
        counts("one byte short", x, 0, 2);
        Wire.send(x, Wire.packet(102, false, 2, Wire.fill(184, 255)));
        int sum = 0;
        for (int k = 0; k < 200; k++) {
            sum = 31 * sum + 255;
        }
        piece("the latest one first", x, 0, 102, 0, -1, 200, sum);
        piece("the one before", x, 1, 101, 1, -1, 1, 1);
        piece("and the first", x, 2, 101, 224, -1, 2);
        piece("no more", x, 3, -1, -1, -1, -1, -1);
        counts("done", x, 0, 3);
    }

    private static void sizeNotTold() {
        StreamSplitter x = fresh();
        Wire.send(x, Wire.packet(101, true, 0, Wire.join(head(7, 0, 0, 0), Wire.fill(175, 1))));
        Wire.send(x, Wire.packet(101, false, 1, Wire.fill(184, 0)));
        counts("its end is not known", x, 0, 0);
        Wire.send(x, Wire.packet(101, true, 2, head(8, 0, 0, 0)));
        counts("it ends where the next begins", x, 0, 1);
        piece("all of it", x, 0, 101, 7, -1, 359);
        Wire.send(x, Wire.packet(101, true, 3, new int[] {9}));
        counts("without any data, too", x, 0, 2);
        piece("empty", x, 0, 101, 8, -1, 0, 0);
        Wire.send(x, Wire.packet(101, false, 4, new int[] {9}));
        Wire.send(x, Wire.packet(101, true, 5, head(9, 0, 0, 0)));
        counts("what didn't begin doesn't end", x, 0, 2);
        Wire.send(x, Wire.packet(101, true, 7, head(10, 0, 0, 0)));
        counts("a gap gives it up", x, 1, 2);
    }

    private static void heads() {
        StreamSplitter x = fresh();
        int[] whole = Wire.join(head(5, 10, 0x80, 5), new int[] {0x21, 0, 1, 0, 1, 77, 78});
        int count = 0;
        for (int at : new int[] {0, 1, 2}) {
            int[] other = whole.clone();
            other[at] ^= 2;
            Wire.send(x, Wire.packet(101, true, count++, other));
        }
        int[] marks = {0xC0, 0x40, 0x00};
        for (int mark : marks) {
            int[] other = whole.clone();
            other[6] = mark;
            Wire.send(x, Wire.packet(101, true, count++, other));
        }
        Wire.send(x, Wire.packet(101, true, count++, java.util.Arrays.copyOf(whole, 13)));
        Wire.send(x, Wire.packet(101, true, count++, java.util.Arrays.copyOf(whole, 8)));
        counts("none begins", x, 0, 0);
        Check.due("no NOW", x.now(0), -1);
        Wire.send(x, Wire.packet(101, true, count++, java.util.Arrays.copyOf(whole, 14)));
        Check.due("a head alone begins", x.now(0), 0);
        Wire.send(x, Wire.packet(101, false, count++, new int[] {77, 78}));
        piece("a head alone", x, 0, 101, 5, 0, 2, 31 * 77 + 78);
        whole[6] = 0xBF;
        whole[7] = 0xBF;
        Wire.send(x, Wire.packet(101, true, count, whole));
        counts("bits that mean nothing", x, 0, 2);
    }

    /** Sends an empty piece with a field of h bytes, all 1. */
    private static void timed(StreamSplitter x, int count, int flags, int h) {
        Wire.send(x, Wire.packet(101, true, count, Wire.join(head(0, 3 + h, flags, h), Wire.fill(h, 255))));
    }

    private static void times() {
        StreamSplitter x = fresh();
        timed(x, 0, 0x80, 4);
        piece("four bytes are no time", x, 0, 101, 0, -1, 0);
        timed(x, 1, 0x40, 5);
        piece("F is 1", x, 0, 101, 0, -1, 0);
        timed(x, 2, 0x3F, 5);
        piece("F is 0", x, 0, 101, 0, -1, 0);
        Check.due("no NOW", x.now(0), -1);
        timed(x, 3, 0x80, 5);
        piece("F is 2", x, 0, 101, 0, LAST, 0);
        Check.due("NOW", x.now(0), LAST);
        int[] time = Wire.row().n(4, 0).n(3, 5).n(1, 0).n(15, 0x1234).n(1, 0).n(15, 0x4321).n(1, 0).end();
        Wire.send(x, Wire.packet(102, true, 0, Wire.join(head(0, 9, 0xC0, 6), time, new int[] {9})));
        piece("F is 3", x, 0, 102, 0, 5L << 30 | 0x1234 << 15 | 0x4321, 0);
        Check.due("NOW of the other stream", x.now(0), 5L << 30 | 0x1234 << 15 | 0x4321);
        counts("all are done", x, 0, 5);
    }

    private static void toldSizes() {
        StreamSplitter x = fresh();
        Wire.send(x, Wire.packet(101, true, 0, Wire.join(head(0, 3, 0, 0), Wire.fill(9, 1))));
        counts("none is done at once", x, 0, 1);
        piece("none", x, 0, 101, 0, -1, 0, 0);
        Wire.send(x, Wire.packet(101, true, 1, Wire.join(head(0, 2, 0, 0), Wire.fill(9, 1))));
        Wire.send(x, Wire.packet(101, true, 2, Wire.join(head(0, 7, 0x80, 5), Wire.fill(9, 1))));
        counts("below none nothing is done", x, 0, 1);
        Check.due("nor is there a NOW", x.now(0), -1);
        Wire.send(x, Wire.packet(101, true, 3, Wire.join(head(0, 65535, 0, 0), Wire.fill(175, 1))));
        Wire.send(x, Wire.packet(101, true, 4, head(0, 0, 0, 0)));
        counts("the largest is not whole", x, 1, 1);
    }

    private static void givenUp() {
        StreamSplitter x = fresh();
        x.writePiece(101, -1, 400, 1, true);
        x.drop(376, 188);
        x.take();
        x.writePiece(102, -1, 400, 1, true);
        x.drop(188, 188);
        x.take();
        counts("one with a gap", x, 1, 0);
        x.writePiece(102, -1, 9, 1, true);
        x.take();
        counts("was given up already", x, 1, 1);
        x.writePiece(101, -1, 9, 1, true);
        x.take();
        Check.due("two gaps", x.told(4), 2);
        counts("the other with the next gap", x, 2, 2);
        x.writePiece(101, -1, 400, 1, true);
        x.spoil(191, x.spoil(191, 0) | 0xC0);
        x.take();
        counts("X, once", x, 3, 2);
        x.writePiece(101, -1, 400, 1, true);
        x.spoil(189, 64);
        x.take();
        counts("one that begins in its midst", x, 4, 2);
        x.writePiece(101, -1, 400, 1, true);
        x.drop(188, 376);
        x.writeTables(0);
        x.take();
        counts("tables with old versions", x, 4, 2);
        x.writeTables(1);
        x.take();
        counts("tables with new versions", x, 5, 2);
    }

    private static void sixteen() {
        StreamSplitter x = fresh();
        for (int k = 0; k < 20; k++) {
            x.writePiece(101 + 8192 * k, k, k, k, true);
            Check.due("packets", x.take(), 1);
            piece("latest", x, 0, 101, k, k, k);
            Check.due("first of all " + k, x.piece(k, 1), k > 15 ? -1 : 0);
        }
        for (int k = 0; k < 16; k++) {
            piece("kept", x, k, 101, 19 - k, 19 - k, 19 - k);
        }
        Check.due("sixteen are kept", x.piece(16, 0), -1);
        Check.due("at the largest", x.piece(Integer.MAX_VALUE, 0), -1);
        Check.due("all are counted", x.told(9), 20);
    }

    private static void wrongArguments() {
        StreamSplitter x = new StreamSplitter();
        Check.illegal("what 5", () -> x.piece(0, 5));
        Check.illegal("what -1", () -> x.piece(0, -1));
        Check.illegal("k -1", () -> x.piece(-1, 0));
        Check.illegal("what 5 of none", () -> x.piece(16, 5));
        Check.illegal("k smallest", () -> x.piece(Integer.MIN_VALUE, 0));
    }
}
