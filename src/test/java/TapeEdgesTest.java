/** The boundary cases of promises 1 to 6, a sentence of the document at a time. */
public final class TapeEdgesTest {
    private static final int LOWEST = Integer.MIN_VALUE;
    private static final int HIGHEST = Integer.MAX_VALUE;

    public static void main(String[] args) {
        newObject();
        feedLowestFirst();
        feedFull();
        feedRefused();
        spoilAnswers();
        spoilOutside();
        spoilRefused();
        spoilTheFirstNamed();
        tapePlaces();
        tapeOfWhatIsGone();
        tapeFull();
        dropEdges();
        dropRefused();
        sealEdges();
        sealRefused();
        sealFull();
        Check.end();
    }

    private static void newObject() {
        Check.sentence("An empty tape; nothing came, nothing is in force, nothing is to be written.");
        StreamSplitter x = new StreamSplitter();
        for (int what = 0; what <= 11; what++) {
            Check.due("told " + what, x.told(what), what == 10 ? -1 : 0);
        }
        for (int i = -8; i <= 8; i++) {
            Check.due("tape " + i, x.tape(i), 0);
        }
        for (int what = 0; what <= 4; what++) {
            Check.due("piece " + what, x.piece(0, what), -1);
        }
        for (int pid : new int[] {0, 1, 255, 256, 8190, 8191}) {
            Check.due("clock " + pid, x.clock(pid), -1);
        }
        Check.outside("programme", () -> x.programme(0, 0));
        Check.outside("stream", () -> x.stream(0, 0));
        Check.outside("now", () -> x.now(0));
        Check.outside("order", () -> x.order(0, 0, 0));
        Check.outside("addStream", () -> x.addStream(0, 0, 0));
        Check.outside("spoil", () -> x.spoil(0, 0));
        Check.outside("seal", () -> x.seal(0, 0));
        Check.due("drop", x.drop(0, 0), 0);
        Check.due("take", x.take(), 0);
        Check.due("tables", x.writeTables(0), 188);
        Wire.tapeIs("a list without programmes, count 0", x, Wire.sections(0, 0, Wire.list(0)));
    }

    private static void feedLowestFirst() {
        Check.sentence("The n lowest bytes of a long, the lowest first, come behind the tape.");
        for (int n = 1; n <= 8; n++) {
            StreamSplitter x = new StreamSplitter();
            Check.due("feed " + n, x.feed(n, 0x88F7665544332281L), n);
            long mask = n == 8 ? -1 : (1L << 8 * n) - 1;
            Check.due("bytes of " + n, x.tape(0), 0x88F7665544332281L & mask);
            Check.due("behind " + n, x.feed(1, 0x1FF), n + 1);
            Check.due("the one behind", x.tape(n), 255);
        }
    }

    private static void feedFull() {
        Check.sentence("NONE when there would be more than 9400.");
        for (int n = 1; n <= 8; n++) {
            StreamSplitter x = new StreamSplitter();
            Wire.tapeOf(x, 9400 - n);
            Check.due("room for " + n, x.feed(n, -1), 9400);
            Check.due("the last of them", x.tape(9399), 255);
            StreamSplitter y = new StreamSplitter();
            Wire.tapeOf(y, 9401 - n);
            Check.due("one too many of " + n, y.feed(n, -1), -1);
            Check.due("nothing came of " + n, y.told(0), 9401 - n);
            Check.due("not at its end either", y.tape(9401 - n), 0);
            Check.due("one less fits", n == 1 ? y.told(0) : y.feed(n - 1, -1), 9400);
        }
    }

    private static void feedRefused() {
        Check.sentence("IllegalArgumentException: n is not 1 .. 8.");
        StreamSplitter x = new StreamSplitter();
        StreamSplitter full = new StreamSplitter();
        Wire.tapeOf(full, 9400);
        for (int n : new int[] {LOWEST, -8, -1, 0, 9, 16, HIGHEST}) {
            Check.illegal("feed " + n, () -> x.feed(n, -1));
            Check.illegal("full, before NONE: " + n, () -> full.feed(n, -1));
        }
        Check.due("nothing came", x.told(0), 0);
        Check.due("still full", full.told(0), 9400);
        Check.due("feed 1", x.feed(1, 0), 1);
        Check.due("feed 8", x.feed(8, 0), 9);
    }

    private static void spoilAnswers() {
        Check.sentence("Byte i of the tape becomes another one. Answers what it was.");
        StreamSplitter x = new StreamSplitter();
        x.feed(4, 0x80FF7F00L);
        int[] old = {0, 0x7F, 0xFF, 0x80};
        for (int i = 0; i < 4; i++) {
            Check.due("what it was " + i, x.spoil(i, 255 - i), old[i]);
            Check.due("what it became " + i, x.spoil(i, 200 + i), 255 - i);
        }
        Wire.tapeIs("all of them", x, new int[] {200, 201, 202, 203});
    }

    private static void spoilOutside() {
        Check.sentence("IndexOutOfBoundsException: there is no byte i.");
        StreamSplitter x = new StreamSplitter();
        Check.outside("an empty tape", () -> x.spoil(0, 1));
        x.feed(3, 0x030201);
        for (int i : new int[] {LOWEST, -1, 3, 4, 9399, 9400, HIGHEST}) {
            Check.outside("spoil " + i, () -> x.spoil(i, 9));
        }
        Check.due("the first", x.spoil(0, 11), 1);
        Check.due("the last", x.spoil(2, 13), 3);
        Check.due("no others", x.tape(0), 0x0D020B);
        x.drop(0, 1);
        Check.outside("the last is gone", () -> x.spoil(2, 9));
        StreamSplitter full = new StreamSplitter();
        Wire.tapeOf(full, 9400);
        full.spoil(9399, 77);
        Check.due("the last of a full tape", full.tape(9399), 77);
        Check.outside("behind a full tape", () -> full.spoil(9400, 77));
    }

    private static void spoilRefused() {
        Check.sentence("IllegalArgumentException: v is not 0 .. 255.");
        StreamSplitter x = new StreamSplitter();
        x.feed(1, 5);
        for (int v : new int[] {LOWEST, -1, 256, 261, HIGHEST}) {
            Check.illegal("spoil with " + v, () -> x.spoil(0, v));
        }
        Check.due("it stays", x.spoil(0, 0), 5);
        Check.due("0", x.spoil(0, 255), 0);
        Check.due("255", x.spoil(0, 1), 255);
    }

    private static void spoilTheFirstNamed() {
        Check.sentence("the one named first when several would do");
        StreamSplitter x = new StreamSplitter();
        x.feed(1, 5);
        Check.outside("spoil behind", () -> x.spoil(1, 256));
        Check.outside("spoil below", () -> x.spoil(-1, -1));
    }

    private static void tapePlaces() {
        Check.sentence("0 for those places, also below 0, that it has not.");
        StreamSplitter x = new StreamSplitter();
        int[] row = {0x81, 0x92, 0xA3, 0xB4, 0xC5, 0xD6, 0xE7, 0xF8, 0x89, 0x9A, 0xFF};
        Wire.feed(x, row);
        for (int i = -9; i <= 12; i++) {
            long want = 0;
            for (int k = 0; k < 8; k++) {
                want |= i + k >= 0 && i + k < row.length ? (long) row[i + k] << 8 * k : 0;
            }
            Check.due("tape " + i, x.tape(i), want);
        }
        for (int i : new int[] {LOWEST, LOWEST + 7, 9399, 9400, HIGHEST - 7, HIGHEST - 3, HIGHEST}) {
            Check.due("tape " + i, x.tape(i), 0);
        }
    }

    private static void tapeOfWhatIsGone() {
        Check.sentence("0 for those places, also below 0, that it has not.");
        StreamSplitter x = new StreamSplitter();
        x.feed(8, -1);
        x.drop(3, 5);
        Check.due("dropped", x.tape(0), 0xFFFFFF);
        x.take();
        Check.due("taken", x.tape(0), 0);
        x.feed(1, 1);
        Check.due("one came", x.tape(0), 1);
    }

    private static void tapeFull() {
        Check.sentence("THE TAPE is a row of up to 9400 bytes.");
        StreamSplitter x = new StreamSplitter();
        Wire.tapeOf(x, 9392);
        x.feed(8, 0x8877665544332211L);
        Check.due("the last eight", x.tape(9392), 0x8877665544332211L);
        Check.due("seven and none", x.tape(9393), 0x88776655443322L);
        Check.due("the last one", x.tape(9399), 0x88);
        Check.due("none", x.tape(9400), 0);
        Check.due("all are packets but those", x.told(0), 9400);
    }

    private static void dropEdges() {
        Check.sentence("n bytes from byte i on are gone from the tape. Answers how many it has then.");
        int[] row = {1, 2, 3, 4, 5};
        for (int i = 0; i <= 5; i++) {
            for (int n = 0; i + n <= 5; n++) {
                StreamSplitter x = new StreamSplitter();
                Wire.feed(x, row);
                Check.due("drop " + i + " " + n, x.drop(i, n), 5 - n);
                Wire.tapeIs("after drop " + i + " " + n, x, Wire.part(row, 0, i), Wire.part(row, i + n, 5));
            }
        }
        StreamSplitter full = new StreamSplitter();
        Wire.tapeOf(full, 9400);
        Check.due("the last of a full tape", full.drop(9399, 1), 9399);
        full.spoil(9398, 77);
        Check.due("from its midst", full.drop(9000, 200), 9199);
        Check.due("what was behind", full.tape(9198), 77);
        Check.due("all of it", full.drop(0, 9199), 0);
    }

    private static void dropRefused() {
        Check.sentence("IndexOutOfBoundsException: i or n is below 0, or i and n together are more than it has.");
        StreamSplitter x = new StreamSplitter();
        Check.outside("of none", () -> x.drop(0, 1));
        Check.outside("behind none", () -> x.drop(1, 0));
        x.feed(5, 0x0504030201L);
        int[][] pairs = {{0, 6}, {1, 5}, {5, 1}, {6, 0}, {-1, 0}, {-1, 1}, {-1, 3}, {0, -1}, {3, -1}, {5, -1},
            {6, -1}, {-5, 10}, {HIGHEST, HIGHEST}, {HIGHEST, 1}, {1, HIGHEST}, {LOWEST, LOWEST}, {LOWEST, HIGHEST},
            {HIGHEST, LOWEST}, {5, HIGHEST}, {HIGHEST, 5}, {LOWEST, 0}, {0, LOWEST}, {0, HIGHEST}};
        for (int[] pair : pairs) {
            Check.outside("drop " + pair[0] + " " + pair[1], () -> x.drop(pair[0], pair[1]));
        }
        Check.due("all stay", x.told(0), 5);
        Check.due("as they were", x.tape(0), 0x0504030201L);
    }

    private static void sealEdges() {
        Check.sentence("The check of the bytes from one of the tape up to another one (left out) is put into the"
                + " four bytes behind them.");
        int[] row = {9, 8, 7, 6, 5, 4, 3, 2};
        for (int from = 0; from <= 4; from++) {
            for (int to = from; to <= 4; to++) {
                StreamSplitter x = new StreamSplitter();
                Wire.feed(x, row);
                x.seal(from, to);
                int[] check = Wire.row().n(32, Wire.check(Wire.part(row, from, to))).end();
                Wire.tapeIs("seal " + from + " " + to, x,
                        Wire.part(row, 0, to), check, Wire.part(row, to + 4, 8));
            }
        }
    }

    private static void sealRefused() {
        Check.sentence("IndexOutOfBoundsException: not all these four are on the tape, or from is below 0 or above"
                + " to.");
        StreamSplitter x = new StreamSplitter();
        Check.outside("an empty tape", () -> x.seal(0, 0));
        x.feed(3, 0x030201);
        Check.outside("three bytes", () -> x.seal(0, 0));
        x.feed(5, 0x0807060504L);
        int[][] pairs = {{0, 5}, {5, 5}, {0, 8}, {8, 8}, {0, 9}, {-1, 0}, {-1, 4}, {-1, -1}, {1, 0}, {4, 3}, {5, 4},
            {0, -1}, {0, -4}, {-4, -4}, {0, HIGHEST}, {HIGHEST, HIGHEST}, {HIGHEST, 0}, {0, LOWEST},
            {LOWEST, LOWEST}, {LOWEST, 4}, {0, HIGHEST - 3}};
        for (int[] pair : pairs) {
            Check.outside("seal " + pair[0] + " " + pair[1], () -> x.seal(pair[0], pair[1]));
        }
        Check.due("all is as it was", x.tape(0), 0x0807060504030201L);
    }

    private static void sealFull() {
        Check.sentence("IndexOutOfBoundsException: not all these four are on the tape");
        StreamSplitter x = new StreamSplitter();
        Wire.tapeOf(x, 9400);
        x.seal(9396, 9396);
        Check.due("the last four", x.tape(9396), 0xFFFFFFFFL);
        Check.outside("one too many", () -> x.seal(9396, 9397));
        Check.outside("one too many, from the first on", () -> x.seal(0, 9397));
        x.seal(0, 9396);
        Check.due("the length stays", x.told(0), 9400);
    }
}
