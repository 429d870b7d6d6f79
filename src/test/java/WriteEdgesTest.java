/** The boundary cases of writing, promises 15 to 20, a sentence of the document at a time. */
public final class WriteEdgesTest {
    private static final int LOWEST = Integer.MIN_VALUE;
    private static final int HIGHEST = Integer.MAX_VALUE;
    private static final long TIMES = 1L << 33;

    public static void main(String[] args) {
        countModulo16();
        countOfEachPid();
        countOfWhatWasWritten();
        headBits();
        lastPacket();
        sectionsFill();
        noRoomForTables();
        noRoomForPieces();
        noRoomForOrders();
        planRefused();
        planWithoutStreams();
        planFull();
        addStreamRefused();
        addStreamFull();
        forgets();
        tablesOfNone();
        tablesOfAll();
        tablesVersions();
        tablesClock();
        piecePidAndKind();
        pieceTimes();
        pieceTimeRefused();
        pieceData();
        pieceSeeds();
        pieceSizeTold();
        orderHows();
        orderNumbers();
        orderRefused();
        Check.end();
    }

    private static int[] data(int n, int seed) {
        int[] out = new int[n];
        java.math.BigInteger x = java.math.BigInteger.valueOf(seed);
        for (int k = 0; k < n; k++) {
            // Without a wrap of its own, so that the program's is looked at.
            x = x.multiply(java.math.BigInteger.valueOf(1103515245)).add(java.math.BigInteger.valueOf(12345));
            x = x.mod(java.math.BigInteger.ONE.shiftLeft(32));
            out[k] = x.shiftRight(16).intValue() & 255;
        }
        return out;
    }

    /** Puts a row into packets as the document says it, the first one with S. */
    private static int[] packets(int pid, int firstCount, int[] row) {
        int[] out = {};
        for (int at = 0; at < row.length; at += 184) {
            int[] part = Wire.part(row, at, Math.min(row.length, at + 184));
            out = Wire.join(out, Wire.packet(pid, at == 0, (firstCount + at / 184) % 16, part));
        }
        return out;
    }

    private static int[] pieceRow(int kind, long time, int n, int seed, boolean told) {
        int[] head = time < 0 ? Wire.pieceHead(kind, told ? 3 + n : 0, 0, 0)
                : Wire.join(Wire.pieceHead(kind, told ? 8 + n : 0, 0x80, 5), Wire.time(time));
        return Wire.join(head, data(n, seed));
    }

    private static void countModulo16() {
        Check.sentence("Each PID has a count of packets that were written with it, from 0 on; C is this modulo 16");
        StreamSplitter x = new StreamSplitter();
        for (int k = 0; k < 35; k++) {
            x.writeOrder(300, 1, 1, 0, 0);
            Check.due("order " + k, x.tape(188 * k + 3) & 255, 16 + k % 16);
        }
        StreamSplitter y = new StreamSplitter();
        y.writePiece(300, -1, 4000, 1, true);
        for (int k = 0; k < 22; k++) {
            Check.due("packet " + k + " of a piece", y.tape(188 * k + 3) & 15, k % 16);
        }
        y.writePiece(300, -1, 0, 1, true);
        Check.due("the next piece", y.tape(188 * 22 + 3) & 15, 22 % 16);
    }

    private static void countOfEachPid() {
        Check.sentence("Each PID has a count of packets that were written with it");
        StreamSplitter x = new StreamSplitter();
        int[] pids = {0, 1, 255, 256, 257, 512, 8191};
        for (int round = 0; round < 3; round++) {
            for (int pid : pids) {
                int at = x.told(0);
                x.writeOrder(pid, 1, 1, 0, 0);
                Check.due("PID " + pid + " round " + round, x.tape(at + 3) & 15, round);
            }
        }
        int at = x.told(0);
        x.plan(1, 256);
        x.writeTables(1);
        Check.due("a list is one of PID 0", x.tape(at + 3) & 15, 3);
        Check.due("a plan one of its PID", x.tape(at + 191) & 15, 3);
        x.writePiece(256, -1, 0, 1, true);
        Check.due("a piece, too", x.tape(at + 379) & 15, 4);
        x.take();
        x.writePiece(256, -1, 0, 1, true);
        Check.due("taking leaves it", x.tape(3) & 15, 5);
    }

    private static void countOfWhatWasWritten() {
        Check.sentence("Each PID has a count of packets that were written with it");
        StreamSplitter x = new StreamSplitter();
        Wire.send(x, Wire.packet(9, false, 7, Wire.fill(184, 0)), Wire.packet(9, false, 8, Wire.fill(184, 0)));
        x.writePiece(9, -1, 0, 1, true);
        Check.due("what came counts not", x.tape(3) & 15, 0);
        x.take();
        Check.due("so it is a gap", x.told(4), 1);
    }

    private static void headBits() {
        Check.sentence("E, X and the bit behind S are 0.");
        for (int pid : new int[] {0, 1, 255, 256, 4096, 8191}) {
            StreamSplitter x = new StreamSplitter();
            x.writePiece(pid + 8192 * 255, -1, 300, 1, true);
            Check.due("first of " + pid, x.tape(0) & 0xFFFFFFFFL, 71 | (64 | pid >> 8) << 8 | (pid & 255) << 16 | 16 << 24);
            Check.due("last of " + pid, x.tape(188) & 0xFFFFFFFFL, 71 | pid >> 8 << 8 | (pid & 255) << 16 | 0x31 << 24);
        }
    }

    private static void lastPacket() {
        Check.sentence("if the last one has n less, it has A = 3, L = n - 1, and if that is not 0 a byte 0 and bytes"
                + " 255; others have A = 1.");
        for (int row : new int[] {9, 10, 180, 181, 182, 183, 184, 185, 186, 366, 367, 368, 369}) {
            StreamSplitter x = new StreamSplitter();
            int n = row - 9;
            int want = row <= 184 ? 188 : row <= 368 ? 376 : 564;
            Check.due("answer with " + row, x.writePiece(5, -1, n, 1, true), want);
            Wire.tapeIs("a row of " + row, x, packets(5, 0, pieceRow(0, -1, n, 1, true)));
        }
        StreamSplitter x = new StreamSplitter();
        x.writePiece(5, 1, 170, 1, true);
        Check.due("none less", x.tape(3) & 255, 0x10);
        x.writePiece(5, 1, 169, 1, true);
        Check.due("one less: L is 0", x.tape(188 + 3) & 0xFFFFFF, 0x000031);
        x.writePiece(5, 1, 168, 1, true);
        Check.due("two less: L is 1, a byte 0", x.tape(376 + 3) & 0xFFFFFFFFL, 0x00000132);
        x.writePiece(5, 1, 167, 1, true);
        Check.due("three less: L is 2, 0, 255", x.tape(564 + 3) & 0xFFFFFFFFL, 0xFF000233L);
    }

    private static void sectionsFill() {
        Check.sentence("Sections are written with a byte 0 before them, and bytes 255 behind them up to whole"
                + " packets.");
        StreamSplitter x = new StreamSplitter();
        x.writeTables(3);
        Wire.tapeIs("the shortest table", x, Wire.sections(0, 0, Wire.list(3)));
        StreamSplitter y = new StreamSplitter();
        y.writeOrder(9, 1, 8 | 16 | 32, 5, 7);
        Wire.tapeIs("the longest order", y, Wire.sections(9, 0, Wire.section(Wire.orderHead(0, 1).bytes(0x7F, 0x6F)
                .n(7, 127).n(33, 5).n(7, 127).n(33, 7).n(32, -1).end())));
    }

    private static void noRoomForTables() {
        Check.sentence("What would make the tape longer than 9400 bytes isn't written at all.");
        for (int programmes = 0; programmes <= 4; programmes++) {
            StreamSplitter x = new StreamSplitter();
            for (int k = 1; k <= programmes; k++) {
                x.plan(k, 50 + k);
            }
            int room = 188 * (1 + programmes);
            Wire.tapeOf(x, 9401 - room);
            Check.due("a byte too much", x.writeTables(1), -1);
            Check.due("all or nothing", x.told(0), 9401 - room);
            Check.due("nothing behind the tape", x.tape(9401 - room), 0);
            x.drop(0, 1);
            Check.due("just room", x.writeTables(1), 9400);
            Check.due("the list's count", x.tape(9400 - room + 3) & 15, 0);
            for (int k = 1; k <= programmes; k++) {
                Check.due("a plan's count", x.tape(9400 - room + 188 * k + 3) & 15, 0);
            }
        }
    }

    private static void noRoomForPieces() {
        Check.sentence("What would make the tape longer than 9400 bytes isn't written at all.");
        int[][] sizes = {{0, 1}, {175, 1}, {176, 2}, {359, 2}, {360, 3}, {3855, 21}, {3856, 22}, {4000, 22}};
        for (int[] size : sizes) {
            StreamSplitter x = new StreamSplitter();
            int room = 188 * size[1];
            Wire.tapeOf(x, 9401 - room);
            Check.due("a byte too much for " + size[0], x.writePiece(9, -1, size[0], 1, true), -1);
            Check.due("nothing is written", x.told(0), 9401 - room);
            x.drop(0, 1);
            Check.due("just room for " + size[0], x.writePiece(9, -1, size[0], 1, true), 9400);
            Check.due("its count", x.tape(9400 - room + 3) & 15, 0);
            Check.due("no more", x.writePiece(9, -1, 0, 1, true), -1);
        }
        StreamSplitter x = new StreamSplitter();
        Wire.tapeOf(x, 9212);
        Check.due("with a time 171 are too many", x.writePiece(9, 0, 171, 1, true), -1);
        Check.due("but 170 not", x.writePiece(9, 0, 170, 1, true), 9400);
    }

    private static void noRoomForOrders() {
        Check.sentence("What would make the tape longer than 9400 bytes isn't written at all.");
        StreamSplitter x = new StreamSplitter();
        Wire.tapeOf(x, 9213);
        Check.due("a byte too much", x.writeOrder(9, 1, 1, 0, 0), -1);
        Check.due("nothing is written", x.told(0), 9213);
        x.drop(0, 1);
        Check.due("just room", x.writeOrder(9, 1, 1, 0, 0), 9400);
        Check.due("its count", x.tape(9212 + 3) & 15, 0);
        Check.due("no more", x.writeOrder(9, 1, 1, 0, 0), -1);
        Check.due("all is there", x.take(), 50);
    }

    private static void planRefused() {
        Check.sentence("IllegalArgumentException: number is not 1 .. 65535, or pid not 0 .. 8191.");
        StreamSplitter x = new StreamSplitter();
        for (int number : new int[] {LOWEST, -1, 0, 65536, HIGHEST}) {
            Check.illegal("number " + number, () -> x.plan(number, 100));
        }
        for (int pid : new int[] {LOWEST, -1, 8192, HIGHEST}) {
            Check.illegal("pid " + pid, () -> x.plan(1, pid));
        }
        Check.due("none was added", x.plan(1, 0), 1);
        Check.due("the largest", x.plan(65535, 8191), 2);
    }

    private static void planWithoutStreams() {
        Check.sentence("A programme more is to be written, without streams.");
        StreamSplitter x = new StreamSplitter();
        x.plan(1, 100);
        x.addStream(0, 2, 101);
        x.plan(1, 100);
        Check.due("the same again, without them", x.writeTables(4), 3 * 188);
        Wire.tapeIs("both", x, Wire.sections(0, 0, Wire.list(4, 1, 100, 1, 100)),
                Wire.sections(100, 0, Wire.plan(1, 4, 101, 2, 101)), Wire.sections(100, 1, Wire.plan(1, 4, 8191)));
        Check.due("the first of its streams", x.addStream(1, 2, 101), 1);
        Check.due("the second of the other's", x.addStream(0, 2, 101), 2);
    }

    private static void planFull() {
        Check.sentence("Answers how many there are; NONE when there are four.");
        StreamSplitter x = new StreamSplitter();
        for (int k = 1; k <= 4; k++) {
            Check.due("programme " + k, x.plan(7, 70), k);
        }
        Check.due("a fifth", x.plan(8, 80), -1);
        Check.illegal("throws before NONE: number", () -> x.plan(0, 80));
        Check.illegal("throws before NONE: pid", () -> x.plan(8, 8192));
        Check.outside("there is no fifth", () -> x.addStream(4, 1, 1));
        Check.due("the fourth is there", x.addStream(3, 1, 1), 1);
    }

    private static void addStreamRefused() {
        Check.sentence("IndexOutOfBoundsException: there is no such programme. IllegalArgumentException: type is not"
                + " 0 .. 255, or pid not 0 .. 8191.");
        StreamSplitter x = new StreamSplitter();
        Check.outside("none", () -> x.addStream(0, 1, 1));
        x.plan(1, 100);
        x.plan(2, 200);
        for (int k : new int[] {LOWEST, -1, 2, 3, 4, HIGHEST}) {
            Check.outside("programme " + k, () -> x.addStream(k, 1, 1));
            Check.outside("named first, type: " + k, () -> x.addStream(k, 256, 1));
            Check.outside("named first, pid: " + k, () -> x.addStream(k, 1, -1));
        }
        for (int type : new int[] {LOWEST, -1, 256, HIGHEST}) {
            Check.illegal("type " + type, () -> x.addStream(1, type, 1));
        }
        for (int pid : new int[] {LOWEST, -1, 8192, HIGHEST}) {
            Check.illegal("pid " + pid, () -> x.addStream(1, 1, pid));
        }
        Check.due("none was added", x.addStream(1, 0, 0), 1);
        Check.due("the largest", x.addStream(1, 255, 8191), 2);
        Check.due("the first programme", x.addStream(0, 0, 0), 1);
    }

    private static void addStreamFull() {
        Check.sentence("Answers how many it has; NONE when it has four.");
        StreamSplitter x = new StreamSplitter();
        x.plan(1, 100);
        x.plan(2, 200);
        for (int j = 1; j <= 4; j++) {
            Check.due("stream " + j, x.addStream(0, 5, 50), j);
        }
        Check.due("a fifth", x.addStream(0, 5, 50), -1);
        Check.illegal("throws before NONE: type", () -> x.addStream(0, 256, 50));
        Check.illegal("throws before NONE: pid", () -> x.addStream(0, 5, 8192));
        Check.outside("throws before NONE: programme", () -> x.addStream(2, 5, 50));
        Check.due("the other has none yet", x.addStream(1, 5, 50), 1);
        x.writeTables(0);
        x.drop(0, 188);
        x.drop(188, 188);
        Wire.tapeIs("four", x, Wire.sections(100, 0, Wire.plan(1, 0, 50, 5, 50, 5, 50, 5, 50, 5, 50)));
    }

    private static void forgets() {
        Check.sentence("Nothing is to be written any more (the counts stay).");
        StreamSplitter x = new StreamSplitter();
        x.forget();
        Check.due("nothing to forget", x.plan(1, 100), 1);
        x.addStream(0, 2, 101);
        x.writeTables(1);
        x.take();
        x.forget();
        Check.outside("no programme", () -> x.addStream(0, 1, 1));
        Check.due("what came stays", x.told(11), 1);
        Check.due("the list alone", x.writeTables(2), 188);
        Check.due("the first again", x.plan(1, 100), 1);
        Check.due("and without streams", x.writeTables(3), 188 * 3);
        Wire.tapeIs("the counts stay", x, Wire.sections(0, 1, Wire.list(2)), Wire.sections(0, 2, Wire.list(3, 1, 100)),
                Wire.sections(100, 1, Wire.plan(1, 3, 8191)));
        for (int k = 2; k <= 4; k++) {
            Check.due("room for four", x.plan(1, 100), k);
        }
    }

    private static void tablesOfNone() {
        Check.sentence("Writes the list (with PID 0), then the plans of all programmes that are to be written");
        StreamSplitter x = new StreamSplitter();
        Check.due("none", x.writeTables(7), 188);
        Wire.tapeIs("none", x, Wire.sections(0, 0, Wire.list(7)));
        x.take();
        Check.due("it is a list", x.told(10), 7);
        Check.due("without programmes", x.told(11), 0);
    }

    private static void tablesOfAll() {
        Check.sentence("Writes the list (with PID 0), then the plans of all programmes that are to be written, all"
                + " with a version");
        StreamSplitter x = new StreamSplitter();
        int[] numbers = {1, 65535, 256, 1};
        int[] pids = {8191, 0, 256, 0};
        for (int k = 0; k < 4; k++) {
            x.plan(numbers[k], pids[k]);
            for (int j = 0; j < 4 - k; j++) {
                x.addStream(k, 255 - j, 8191 - k * 1000 - j);
            }
        }
        Check.due("five packets", x.writeTables(21), 5 * 188);
        Wire.tapeIs("all", x, Wire.sections(0, 0, Wire.list(21, 1, 8191, 65535, 0, 256, 256, 1, 0)),
                Wire.sections(8191, 0, Wire.plan(1, 21, 8191, 255, 8191, 254, 8190, 253, 8189, 252, 8188)),
                Wire.sections(0, 1, Wire.plan(65535, 21, 7191, 255, 7191, 254, 7190, 253, 7189)),
                Wire.sections(256, 0, Wire.plan(256, 21, 6191, 255, 6191, 254, 6190)),
                Wire.sections(0, 2, Wire.plan(1, 21, 5191, 255, 5191)));
    }

    private static void tablesVersions() {
        Check.sentence("IllegalArgumentException: version is not 0 .. 31.");
        StreamSplitter x = new StreamSplitter();
        StreamSplitter full = new StreamSplitter();
        Wire.tapeOf(full, 9400);
        x.plan(1, 100);
        for (int version : new int[] {LOWEST, -1, 32, 33, HIGHEST}) {
            Check.illegal("version " + version, () -> x.writeTables(version));
            Check.illegal("before NONE " + version, () -> full.writeTables(version));
        }
        Check.due("nothing was written", x.told(0), 0);
        Check.due("version 0", x.writeTables(0), 376);
        Check.due("version 31", x.writeTables(31), 752);
        Wire.tapeIs("both", x, Wire.sections(0, 0, Wire.list(0, 1, 100)), Wire.sections(100, 0, Wire.plan(1, 0, 8191)),
                Wire.sections(0, 1, Wire.list(31, 1, 100)), Wire.sections(100, 1, Wire.plan(1, 31, 8191)));
    }

    private static void tablesClock() {
        Check.sentence("the PID of a clock is that of the first stream, or 8191");
        StreamSplitter x = new StreamSplitter();
        x.plan(1, 100);
        x.plan(2, 200);
        x.addStream(1, 134, 0);
        x.addStream(1, 2, 300);
        x.writeTables(1);
        x.take();
        Check.due("without streams", x.programme(0, 3), 8191);
        Check.due("with streams", x.programme(1, 3), 0);
    }

    private static void piecePidAndKind() {
        Check.sentence("IllegalArgumentException: pidAndKind is not 0 .. 2097151, n not 0 .. 4000");
        StreamSplitter x = new StreamSplitter();
        StreamSplitter full = new StreamSplitter();
        Wire.tapeOf(full, 9400);
        for (int both : new int[] {LOWEST, -1, 2097152, HIGHEST}) {
            Check.illegal("pidAndKind " + both, () -> x.writePiece(both, 0, 0, 0, true));
            Check.illegal("before NONE " + both, () -> full.writePiece(both, 0, 0, 0, true));
        }
        for (int n : new int[] {LOWEST, -1, 4001, HIGHEST}) {
            Check.illegal("n " + n, () -> x.writePiece(0, 0, n, 0, true));
            Check.illegal("before NONE, n " + n, () -> full.writePiece(0, 0, n, 0, true));
        }
        Check.due("nothing was written", x.told(0), 0);
        int[] both = {0, 8191, 8192, 2097151, 2097151 - 8191};
        int[] want = {};
        for (int k = 0; k < both.length; k++) {
            Check.due("pidAndKind " + both[k], x.writePiece(both[k], -1, 0, 0, true), 188 * (k + 1));
            int count = k == 2 || k == 4 ? k / 2 : k == 3 ? 1 : 0;
            want = Wire.join(want, packets(both[k] & 8191, count, pieceRow(both[k] / 8192, -1, 0, 0, true)));
        }
        Wire.tapeIs("PIDs and kinds", x, want);
    }

    private static void pieceTimes() {
        Check.sentence("time is none if it is below 0");
        StreamSplitter x = new StreamSplitter();
        long[] times = {Long.MIN_VALUE, -TIMES, -1, 0, 1, 32767, 32768, (1L << 30) - 1, 1L << 30, TIMES - 1};
        int[] want = {};
        for (int k = 0; k < times.length; k++) {
            Check.due("time " + times[k], x.writePiece(9, times[k], 2, 3, true), 188 * (k + 1));
            want = Wire.join(want, packets(9, k, pieceRow(0, times[k], 2, 3, true)));
        }
        Wire.tapeIs("times", x, want);
    }

    private static void pieceTimeRefused() {
        Check.sentence("IllegalArgumentException: pidAndKind is not 0 .. 2097151, n not 0 .. 4000, or time 2^33 or"
                + " more.");
        StreamSplitter x = new StreamSplitter();
        StreamSplitter full = new StreamSplitter();
        Wire.tapeOf(full, 9400);
        for (long time : new long[] {TIMES, TIMES + 1, 1L << 34, Long.MAX_VALUE}) {
            Check.illegal("time " + time, () -> x.writePiece(0, time, 0, 0, true));
            Check.illegal("before NONE " + time, () -> full.writePiece(0, time, 0, 0, false));
        }
        Check.due("nothing was written", x.told(0), 0);
        Check.due("the largest", x.writePiece(0, TIMES - 1, 0, 0, true), 188);
    }

    private static void pieceData() {
        Check.sentence("n bytes of data");
        for (int n : new int[] {0, 1, 3999, 4000}) {
            StreamSplitter x = new StreamSplitter();
            int[] want = packets(9, 0, pieceRow(5, -1, n, 77, true));
            Check.due("answer with " + n, x.writePiece(9 + 5 * 8192, -1, n, 77, true), want.length);
            // The last packets of a long one; all of them would take more than 512 calls.
            int from = Math.max(0, want.length - 2 * 188);
            x.drop(0, from);
            Wire.tapeIs("the end of " + n, x, Wire.part(want, from, want.length));
        }
    }

    private static void pieceSeeds() {
        Check.sentence("x, seed at first, becoming 1103515245 x + 12345 before each, which is its bits 16 to 23");
        for (int seed : new int[] {0, 1, -1, LOWEST, HIGHEST, -12345}) {
            StreamSplitter x = new StreamSplitter();
            x.writePiece(9, -1, 175, seed, false);
            Wire.tapeIs("seed " + seed, x, packets(9, 0, pieceRow(0, -1, 175, seed, false)));
        }
    }

    private static void pieceSizeTold() {
        Check.sentence("Its size is told if it is told to be; F is 2 and h 5 with a time (its 4 bits 2, its single"
                + " bits 1), else 0 and 0; the six bits behind 10 and behind F are 0.");
        StreamSplitter x = new StreamSplitter();
        int[] want = {};
        int count = 0;
        for (boolean told : new boolean[] {true, false}) {
            for (long time : new long[] {-1, 5}) {
                for (int n : new int[] {0, 100}) {
                    x.writePiece(9, time, n, 4, told);
                    want = Wire.join(want, packets(9, count++, pieceRow(0, time, n, 4, told)));
                }
            }
        }
        Wire.tapeIs("told or not", x, want);
        StreamSplitter y = Wire.tuned();
        y.writePiece(101, 5, 4000, 4, true);
        y.take();
        Check.due("the largest comes back at once", y.piece(0, 3), 4000);
        y.writePiece(101, 5, 4000, 4, false);
        y.take();
        Check.due("not told, it isn't done", y.told(9), 1);
        y.writePiece(101, 5, 0, 4, true);
        y.take();
        Check.due("up to the next one", y.piece(1, 3), 4000);
    }

    /** An order as the document says it, by what how says. */
    private static int[] orderOf(int name, int how, long time, long length, long shift) {
        Wire row = Wire.orderHead(shift, name).n(1, how & 1).n(7, 127);
        boolean soon = (how & 4) != 0;
        if ((how & 1) == 0) {
            row.n(1, how >> 1).n(1, 1).n(1, how >> 3).n(1, how >> 2).n(4, 15);
            if (!soon && (how & 32) != 0) {
                row.n(7, 127).n(33, time);
            } else if (!soon) {
                row.n(1, 0).n(7, 127);
            }
            if ((how & 8) != 0) {
                row.n(1, how >> 4).n(6, 63).n(33, length);
            }
            row.n(32, -1);
        }
        return Wire.section(row.end());
    }

    private static void orderHows() {
        Check.sentence("What it says not to have does not stand there (with cancel 1 nothing behind that byte).");
        for (int group = 0; group < 64; group += 8) {
            StreamSplitter x = new StreamSplitter();
            int[] want = {};
            for (int k = 0; k < 8; k++) {
                Check.due("answer", x.writeOrder(9, -3, group + k, TIMES - 2, (5L << 33) + 70), 188 * (k + 1));
                want = Wire.join(want, Wire.sections(9, k, orderOf(-3, group + k, TIMES - 2, 70, 5)));
            }
            Wire.tapeIs("hows from " + group, x, want);
        }
    }

    private static void orderNumbers() {
        Check.sentence("the length are the lowest 33 bits of lengthAndShift, the shift the next 30 of it.");
        StreamSplitter x = new StreamSplitter();
        long[] both = {0, 1, TIMES - 1, TIMES, TIMES + 1, Long.MAX_VALUE, Long.MAX_VALUE - TIMES, 1L << 62};
        int[] names = {0, 1, -1, LOWEST, HIGHEST, 255, 256, 65536};
        long[] times = {0, 1, TIMES - 1, 1L << 32, (1L << 32) - 1, 255, 256, 65536};
        int[] want = {};
        for (int k = 0; k < both.length; k++) {
            x.writeOrder(8191, names[k], 2 | 8 | 16 | 32, times[k], both[k]);
            int[] order = orderOf(names[k], 2 | 8 | 16 | 32, times[k], both[k] % TIMES, both[k] / TIMES);
            want = Wire.join(want, Wire.sections(8191, k, order));
        }
        Wire.tapeIs("numbers", x, want);
    }

    private static void orderRefused() {
        Check.sentence("IllegalArgumentException: pid is not 0 .. 8191, how not 0 .. 63, time not 0 .. 2^33 - 1, or"
                + " lengthAndShift below 0.");
        StreamSplitter x = new StreamSplitter();
        StreamSplitter full = new StreamSplitter();
        Wire.tapeOf(full, 9400);
        for (StreamSplitter one : new StreamSplitter[] {x, full}) {
            for (int pid : new int[] {LOWEST, -1, 8192, HIGHEST}) {
                Check.illegal("pid " + pid, () -> one.writeOrder(pid, 0, 0, 0, 0));
            }
            for (int how : new int[] {LOWEST, -1, 64, HIGHEST}) {
                Check.illegal("how " + how, () -> one.writeOrder(0, 0, how, 0, 0));
            }
            for (long time : new long[] {Long.MIN_VALUE, -1, TIMES, Long.MAX_VALUE}) {
                Check.illegal("time " + time, () -> one.writeOrder(0, 0, 0, time, 0));
                Check.illegal("time that isn't written " + time, () -> one.writeOrder(0, 0, 1, time, 0));
            }
            for (long both : new long[] {Long.MIN_VALUE, -1}) {
                Check.illegal("lengthAndShift " + both, () -> one.writeOrder(0, 0, 0, 0, both));
                Check.illegal("one that isn't written " + both, () -> one.writeOrder(0, 0, 1, 0, both));
            }
        }
        Check.due("nothing was written", x.told(0), 0);
        Check.due("the smallest", x.writeOrder(0, LOWEST, 0, 0, 0), 188);
        Check.due("the largest", x.writeOrder(8191, HIGHEST, 63, TIMES - 1, Long.MAX_VALUE), 376);
    }
}
