/** Promises 15 to 20: plan, addStream, forget, writeTables, writePiece, writeOrder. */
public final class WriteTest {
    private static final long LAST = 8589934591L;

    public static void main(String[] args) {
        drafts();
        tables();
        noRoomForTables();
        pieces();
        pieceEdges();
        longPiece();
        noRoomForPieces();
        orders();
        noRoomForOrders();
        counts();
        wrongArguments();
        Check.end();
    }

    private static void drafts() {
        StreamSplitter x = new StreamSplitter();
        Check.illegal("number 0", () -> x.plan(0, 1));
        Check.illegal("number 65536", () -> x.plan(65536, 1));
        Check.illegal("pid -1", () -> x.plan(1, -1));
        Check.illegal("pid 8192", () -> x.plan(1, 8192));
        Check.outside("no programme yet", () -> x.addStream(0, 256, -1));
        Check.due("first", x.plan(1, 0), 1);
        Check.due("second", x.plan(65535, 8191), 2);
        Check.outside("no third", () -> x.addStream(2, 1, 1));
        Check.outside("none below", () -> x.addStream(-1, 256, 1));
        Check.illegal("type 256", () -> x.addStream(0, 256, 1));
        Check.illegal("type -1", () -> x.addStream(0, -1, 1));
        Check.illegal("stream's pid 8192", () -> x.addStream(0, 1, 8192));
        Check.illegal("stream's pid -1", () -> x.addStream(0, 1, -1));
        Check.due("stream of the second", x.addStream(1, 255, 8191), 1);
        for (int k = 1; k <= 4; k++) {
            Check.due("stream " + k, x.addStream(0, 0, 0), k);
        }
        Check.due("no fifth stream", x.addStream(0, 0, 0), -1);
        Check.illegal("throws before NONE", () -> x.addStream(0, 256, 0));
        Check.due("third", x.plan(1, 0), 3);
        Check.due("fourth", x.plan(1, 0), 4);
        Check.due("no fifth", x.plan(1, 0), -1);
        Check.illegal("plan throws before NONE", () -> x.plan(0, 0));
        x.forget();
        Check.outside("forgotten", () -> x.addStream(0, 1, 1));
        Check.due("first again", x.plan(2, 2), 1);
        Check.due("without streams", x.addStream(0, 1, 1), 1);
        Check.due("nothing was written", x.told(0), 0);
    }

    private static void tables() {
        StreamSplitter x = new StreamSplitter();
        Check.due("an empty list", x.writeTables(31), 188);
        Wire.tapeIs("empty list", x, Wire.sections(0, 0, Wire.list(31)));
        x.drop(0, 188);
        x.plan(258, 300);
        x.addStream(0, 134, 8190);
        x.addStream(0, 255, 7);
        x.plan(65535, 0);
        x.plan(1, 8191);
        x.addStream(2, 0, 0);
        Check.due("three programmes", x.writeTables(0), 4 * 188);
        Wire.tapeIs("three programmes", x,
                Wire.sections(0, 1, Wire.list(0, 258, 300, 65535, 0, 1, 8191)),
                Wire.sections(300, 0, Wire.plan(258, 0, 8190, 134, 8190, 255, 7)),
                Wire.sections(0, 2, Wire.plan(65535, 0, 8191)),
                Wire.sections(8191, 0, Wire.plan(1, 0, 0, 0, 0)));
        x.drop(0, 4 * 188);
        x.forget();
        x.writeTables(5);
        Wire.tapeIs("the counts stay", x, Wire.sections(0, 3, Wire.list(5)));
    }

    private static void noRoomForTables() {
        StreamSplitter x = new StreamSplitter();
        x.writePiece(8, 0, 4000, 1, true);
        x.writePiece(8, 0, 4000, 1, true);
        x.writePiece(8, 0, 700, 1, true);
        Check.due("49 packets of 50", x.writePiece(8, -1, 175, 1, true), 9212);
        for (int k = 1; k <= 4; k++) {
            x.plan(k, 50 + k);
        }
        Check.due("five for one", x.writeTables(1), -1);
        Check.illegal("throws before NONE", () -> x.writeTables(32));
        Check.due("nothing was written", x.told(0), 9212);
        x.drop(0, 4 * 188 - 1);
        Check.due("a byte too much", x.writeTables(1), -1);
        x.drop(0, 1);
        Check.due("room for five", x.writeTables(1), 9400);
        x.drop(0, 9400 - 5 * 188);
        Wire.tapeIs("counts went on with what was written alone", x,
                Wire.sections(0, 0, Wire.list(1, 1, 51, 2, 52, 3, 53, 4, 54)),
                Wire.sections(51, 0, Wire.plan(1, 1, 8191)), Wire.sections(52, 0, Wire.plan(2, 1, 8191)),
                Wire.sections(53, 0, Wire.plan(3, 1, 8191)), Wire.sections(54, 0, Wire.plan(4, 1, 8191)));
    }

    private static int[] data(int n, int seed) {
        int[] out = new int[n];
        int x = seed;
        for (int k = 0; k < n; k++) {
            x = 1103515245 * x + 12345;
            out[k] = x >>> 16 & 255;
        }
        return out;
    }

    private static int[] head(int kind, int n) {
        return Wire.row().bytes(0, 0, 1, kind).n(16, n).bytes(0x80, 0, 0).end();
    }

    private static int[] head(int kind, int n, long time) {
        return Wire.row().bytes(0, 0, 1, kind).n(16, n).bytes(0x80, 0x80, 5).n(4, 2).n(3, time >> 30).n(1, 1)
                .n(15, time >> 15).n(1, 1).n(15, time).n(1, 1).end();
    }

    private static void pieces() {
        StreamSplitter x = new StreamSplitter();
        Check.due("no data", x.writePiece(2097151, -1, 0, 7, true), 188);
        Check.due("size not told", x.writePiece(0, Long.MIN_VALUE, 3, -7, false), 376);
        Check.due("with a time", x.writePiece(9, LAST, 4, 99, true), 564);
        Check.due("time 0, size not told", x.writePiece(9, 0, 5, Integer.MIN_VALUE, false), 752);
        Check.due("another time", x.writePiece(9 + 8192 * 224, 0x123456789L, 0, 0, true), 940);
        Wire.tapeIs("pieces", x,
                Wire.packet(8191, true, 0, head(255, 3)),
                Wire.packet(0, true, 0, Wire.join(head(0, 0), data(3, -7))),
                Wire.packet(9, true, 0, Wire.join(head(0, 12, LAST), data(4, 99))),
                Wire.packet(9, true, 1, Wire.join(head(0, 0, 0), data(5, Integer.MIN_VALUE))),
                Wire.packet(9, true, 2, head(224, 8, 0x123456789L)));
    }

    private static void pieceEdges() {
        for (int n : new int[] {173, 174, 175, 176, 358, 359, 360}) {
            StreamSplitter x = new StreamSplitter();
            int[] row = Wire.join(head(1, 3 + n), data(n, n));
            int packets = (row.length + 183) / 184;
            Check.due("answer for " + n, x.writePiece(5 + 8192, -1, n, n, true), 188 * packets);
            int[] want = {};
            for (int k = 0; k < packets; k++) {
                int end = Math.min(row.length, 184 * k + 184);
                int[] part = java.util.Arrays.copyOfRange(row, 184 * k, end);
                want = Wire.join(want, Wire.packet(5, k == 0, k, part));
            }
            Wire.tapeIs("piece of " + n, x, want);
        }
    }

    private static void longPiece() {
        StreamSplitter x = new StreamSplitter();
        x.plan(1, 100);
        x.addStream(0, 2, 8190);
        x.writeTables(1);
        Check.due("4000 bytes", x.writePiece(8190, 1, 4000, 3, true), 376 + 22 * 188);
        Check.due("packets", x.take(), 24);
        int sum = 0;
        for (int value : data(4000, 3)) {
            sum = 31 * sum + value;
        }
        Check.due("its bytes come back", x.piece(0, 3), 4000);
        Check.due("its sum, too", x.piece(0, 4), sum);
        Check.due("without gaps, round the count", x.told(4), 0);
    }

    private static void noRoomForPieces() {
        StreamSplitter x = new StreamSplitter();
        x.writePiece(8, 0, 4000, 1, true);
        x.writePiece(8, 0, 4000, 1, true);
        Check.due("22 for six", x.writePiece(8, 0, 4000, 1, true), -1);
        Check.due("seven for six", x.writePiece(8, -1, 6 * 184 - 8, 1, true), -1);
        Check.illegal("throws before NONE", () -> x.writePiece(8, -1, 4001, 1, true));
        Check.due("six for six", x.writePiece(8, -1, 6 * 184 - 9, 1, true), 9400);
        Check.due("one for none", x.writePiece(8, -1, 0, 1, true), -1);
        Check.due("the count is that of what was written", x.tape(44 * 188 + 3) & 15, 44 % 16);
        Check.due("nothing more", x.told(0), 9400);
    }

    private static int[] order(int count, Wire row) {
        return Wire.sections(300, count, Wire.section(row.end()));
    }

    private static void orders() {
        StreamSplitter x = new StreamSplitter();
        long both = (5L << 33) + 70;
        Check.due("cancel", x.writeOrder(300, -2, 63, LAST, both), 188);
        x.writeOrder(300, 1, 0, LAST, both);
        x.writeOrder(300, 2, 2 | 32, LAST, both);
        x.writeOrder(300, 3, 2 | 4 | 32, 9, both);
        x.writeOrder(300, 4, 8 | 32, 9, Long.MAX_VALUE);
        x.writeOrder(300, 5, 8 | 16, 9, both);
        x.writeOrder(300, 6, 2 | 4 | 8 | 16, 9, LAST);
        Check.due("seven", x.writeOrder(300, 7, 16, 9, 0), 8 * 188);
        Wire.tapeIs("orders", x,
                order(0, Wire.orderHead(5, -2).bytes(0xFF)),
                order(1, Wire.orderHead(5, 1).bytes(0x7F, 0x4F, 0x7F).n(32, -1)),
                order(2, Wire.orderHead(5, 2).bytes(0x7F, 0xCF).n(7, 127).n(33, LAST).n(32, -1)),
                order(3, Wire.orderHead(5, 3).bytes(0x7F, 0xDF).n(32, -1)),
                order(4, Wire.orderHead((1L << 30) - 1, 4).bytes(0x7F, 0x6F).n(7, 127).n(33, 9)
                        .n(7, 63).n(33, LAST).n(32, -1)),
                order(5, Wire.orderHead(5, 5).bytes(0x7F, 0x6F, 0x7F).n(7, 127).n(33, 70).n(32, -1)),
                order(6, Wire.orderHead(0, 6).bytes(0x7F, 0xFF).n(7, 127).n(33, LAST).n(32, -1)),
                order(7, Wire.orderHead(0, 7).bytes(0x7F, 0x4F, 0x7F).n(32, -1)));
    }

    private static void noRoomForOrders() {
        StreamSplitter x = new StreamSplitter();
        x.writePiece(8, 0, 4000, 1, true);
        x.writePiece(8, 0, 4000, 1, true);
        x.writePiece(8, -1, 5 * 184 - 9, 1, true);
        x.feed(1, 0);
        Check.due("a byte too much", x.writeOrder(300, 1, 1, 0, 0), -1);
        Check.illegal("throws before NONE", () -> x.writeOrder(300, 1, 64, 0, 0));
        x.drop(9212, 1);
        Check.due("room for one", x.writeOrder(300, 1, 1, 0, 0), 9400);
        Check.due("none was counted before", x.tape(9212 + 3) & 255, 16);
    }

    private static void counts() {
        StreamSplitter x = new StreamSplitter();
        for (int k = 0; k < 18; k++) {
            x.writeOrder(300, 1, 1, 0, 0);
            Check.due("count " + k, x.tape(188 * k + 3) & 255, 16 + k % 16);
        }
        x.writePiece(300, -1, 0, 0, true);
        Check.due("one count for all that is written", x.tape(188 * 18 + 3) & 255, 48 + 2);
        x.writePiece(301, -1, 0, 0, true);
        Check.due("each PID its own", x.tape(188 * 19 + 3) & 255, 48);
    }

    private static void wrongArguments() {
        StreamSplitter x = new StreamSplitter();
        Check.illegal("version 32", () -> x.writeTables(32));
        Check.illegal("version -1", () -> x.writeTables(-1));
        Check.illegal("pidAndKind -1", () -> x.writePiece(-1, 0, 0, 0, true));
        Check.illegal("pidAndKind 2097152", () -> x.writePiece(2097152, 0, 0, 0, true));
        Check.illegal("n 4001", () -> x.writePiece(0, 0, 4001, 0, true));
        Check.illegal("n -1", () -> x.writePiece(0, 0, -1, 0, true));
        Check.illegal("time 2^33", () -> x.writePiece(0, LAST + 1, 0, 0, true));
        Check.illegal("order's pid 8192", () -> x.writeOrder(8192, 0, 0, 0, 0));
        Check.illegal("order's pid -1", () -> x.writeOrder(-1, 0, 0, 0, 0));
        Check.illegal("how 64", () -> x.writeOrder(0, 0, 64, 0, 0));
        Check.illegal("how -1", () -> x.writeOrder(0, 0, -1, 0, 0));
        Check.illegal("order's time 2^33", () -> x.writeOrder(0, 0, 0, LAST + 1, 0));
        Check.illegal("order's time -1", () -> x.writeOrder(0, 0, 0, -1, 0));
        Check.illegal("lengthAndShift -1", () -> x.writeOrder(0, 0, 0, 0, -1));
        Check.due("nothing was written", x.told(0), 0);
    }
}
