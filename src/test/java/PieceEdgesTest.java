/** The boundary cases of pieces, and of promise 13, a sentence of the document at a time. */
public final class PieceEdgesTest {
    private static final long LAST = (1L << 33) - 1;

    public static void main(String[] args) {
        endsWhatIsGathered();
        endsWithoutAnyData();
        endsThoughNoneBegins();
        beginsWith();
        beginsWithAllItsBytes();
        fieldToTheEnd();
        timeNeedsF();
        timeNeedsFive();
        timeBits();
        behindIsData();
        sizeBelowNone();
        sizeNotTold();
        largestSize();
        withoutBeginning();
        doneAsSoonAs();
        doneAtOnce();
        doneOverPackets();
        sums();
        nowWhenItBegins();
        nowOfTheFirst();
        givenUpWhenBegun();
        givenUpNot();
        sixteenKept();
        notSoMany();
        above15();
        pieceRefused();
        Check.end();
    }

    private static void counts(String what, StreamSplitter x, int givenUp, int done) {
        Check.due(what + ": given up", x.told(8), givenUp);
        Check.due(what + ": done", x.told(9), done);
    }

    private static void piece(String what, StreamSplitter x, int k, long... want) {
        for (int w = 0; w < want.length; w++) {
            Check.due(what + ": piece " + k + " " + w, x.piece(k, w), want[w]);
        }
    }

    private static void begin(StreamSplitter x, int count, int[]... rows) {
        Wire.send(x, Wire.packet(101, true, count, Wire.join(rows)));
    }

    private static void goOn(StreamSplitter x, int count, int bytes) {
        Wire.send(x, Wire.packet(101, false, count, Wire.fill(bytes, 1)));
    }

    private static int[] head(int kind, int n) {
        return Wire.pieceHead(kind, n, 0, 0);
    }

    private static void endsWhatIsGathered() {
        Check.sentence("A payload with S ends what is gathered: that is DONE if its size was not told (also without"
                + " any data), else it is given up.");
        StreamSplitter x = Wire.tuned();
        begin(x, 0, head(1, 0), Wire.fill(4, 1));
        counts("not yet", x, 0, 0);
        begin(x, 1, head(2, 3 + 5), Wire.fill(4, 1));
        counts("size not told", x, 0, 1);
        piece("it", x, 0, 101, 1, -1, 4);
        begin(x, 2, head(3, 3 + 5), Wire.fill(4, 1));
        counts("told, one short", x, 1, 1);
        begin(x, 3, head(4, 3 + 4), Wire.fill(4, 1));
        counts("again, and one that is whole", x, 2, 2);
        piece("the whole one", x, 0, 101, 4, -1, 4);
        begin(x, 4, head(5, 0), Wire.fill(4, 1));
        counts("a whole one ends but once", x, 2, 2);
        Wire.send(x, Wire.packet(103, true, 0, head(6, 0)));
        counts("another PID ends it not", x, 2, 2);
    }

    private static void endsWithoutAnyData() {
        Check.sentence("(also without any data)");
        StreamSplitter x = Wire.tuned();
        begin(x, 0, head(1, 0));
        counts("begun", x, 0, 0);
        begin(x, 1, head(2, 0));
        counts("done", x, 0, 1);
        piece("empty", x, 0, 101, 1, -1, 0, 0);
        begin(x, 2, head(3, 4));
        counts("done again", x, 0, 2);
        begin(x, 3, head(4, 4));
        counts("but told and without any data", x, 1, 2);
    }

    private static void endsThoughNoneBegins() {
        Check.sentence("otherwise nothing else is done with it.");
        StreamSplitter x = Wire.tuned();
        begin(x, 0, head(1, 0), Wire.fill(4, 1));
        begin(x, 1, new int[] {0});
        counts("what was gathered is done", x, 0, 1);
        goOn(x, 2, 184);
        begin(x, 3, new int[] {0, 0, 1});
        counts("nothing is gathered then", x, 0, 1);
        begin(x, 4, head(1, 9));
        begin(x, 5, new int[] {0});
        counts("or given up", x, 1, 1);
        begin(x, 6, new int[] {0});
        counts("once", x, 1, 1);
    }

    private static void beginsWith() {
        Check.sentence("It must begin with 0, 0, 1, a byte KIND, 16 bits n, two bits 10, six bits, two bits F, six"
                + " bits, a byte h, and h bytes; otherwise nothing else is done with it.");
        int[] whole = Wire.join(Wire.pieceHead(5, 3 + 5 + 2, 0x80, 5), Wire.time(77), new int[] {8, 9});
        int[] fixed = {0, 1, 2};
        for (int at : fixed) {
            StreamSplitter x = Wire.tuned();
            for (int bit = 0; bit < 8; bit++) {
                begin(x, bit, Wire.with(whole, at, whole[at] ^ 1 << bit));
            }
            counts("byte " + at + " with a bit changed", x, 0, 0);
            Check.due("no NOW", x.now(0), -1);
        }
        StreamSplitter x = Wire.tuned();
        for (int mark = 0; mark < 4; mark++) {
            begin(x, mark, Wire.with(whole, 6, mark << 6 | 21));
            counts("two bits " + mark, x, 0, mark < 2 ? 0 : 1);
            Check.due("NOW with two bits " + mark, x.now(0), mark < 2 ? -1 : 77);
        }
        begin(x, 4, Wire.with(Wire.with(whole, 6, 0xBF), 7, 0xBF));
        piece("bits that mean nothing", x, 0, 101, 5, 77, 2, 31 * 8 + 9);
        int sent = 5;
        for (int kind : new int[] {0, 127, 128, 255}) {
            begin(x, sent++, Wire.with(whole, 3, kind));
            piece("kind " + kind, x, 0, 101, kind, 77, 2);
        }
    }

    private static void beginsWithAllItsBytes() {
        Check.sentence("a byte h, and h bytes; otherwise nothing else is done with it.");
        int[] whole = Wire.join(Wire.pieceHead(5, 3 + 5 + 2, 0x80, 5), Wire.time(77), new int[] {8, 9});
        StreamSplitter x = Wire.tuned();
        for (int bytes = 1; bytes <= 13; bytes++) {
            begin(x, bytes, Wire.part(whole, 0, bytes));
            counts("begun with " + bytes, x, 0, 0);
            Check.due("NOW with " + bytes, x.now(0), -1);
        }
        goOn(x, 14, 9);
        counts("none has begun", x, 0, 0);
        begin(x, 15, Wire.part(whole, 0, 14));
        Check.due("NOW with 14", x.now(0), 77);
        counts("begun with 14", x, 0, 0);
        goOn(x, 0, 2);
        counts("two more", x, 0, 1);
        begin(x, 1, head(6, 3));
        counts("nine are enough without h", x, 0, 2);
    }

    private static void fieldToTheEnd() {
        Check.sentence("a byte h, and h bytes; otherwise nothing else is done with it.");
        StreamSplitter x = Wire.tuned();
        begin(x, 0, Wire.pieceHead(1, 0, 0x80, 175), Wire.time(77), Wire.fill(170, 9));
        Check.due("h is all there is", x.now(0), 77);
        begin(x, 1, Wire.pieceHead(2, 0, 0x80, 176), Wire.time(78), Wire.fill(170, 9));
        counts("the first is done", x, 0, 1);
        piece("without data", x, 0, 101, 1, 77, 0);
        Check.due("h is one more", x.now(0), 77);
        begin(x, 2, Wire.pieceHead(3, 0, 0x80, 255), Wire.time(79), Wire.fill(170, 9));
        Check.due("h is the largest", x.now(0), 77);
        begin(x, 3, Wire.pieceHead(4, 0, 0x80, 174), Wire.time(80), Wire.fill(169, 9), new int[] {200});
        begin(x, 4, new int[] {0});
        counts("h is one less", x, 0, 2);
        piece("one byte of data", x, 0, 101, 4, 80, 1, 200);
    }

    private static void timeNeedsF() {
        Check.sentence("If F is 2 or 3 and h is 5 or more");
        StreamSplitter x = Wire.tuned();
        for (int f = 0; f < 4; f++) {
            begin(x, f, Wire.pieceHead(f, 8, f << 6 | 63, 5), Wire.time(100 + f));
            piece("F is " + f, x, 0, 101, f, f < 2 ? -1 : 100 + f, 0);
            Check.due("NOW with F " + f, x.now(0), f < 2 ? -1 : 100 + f);
        }
    }

    private static void timeNeedsFive() {
        Check.sentence("If F is 2 or 3 and h is 5 or more");
        StreamSplitter x = Wire.tuned();
        int sent = 0;
        for (int h : new int[] {0, 1, 4, 5, 6, 10}) {
            for (int f : new int[] {0x80, 0xC0}) {
                int[] rest = Wire.part(Wire.join(Wire.time(500 + h), Wire.fill(5, 255)), 0, h);
                begin(x, sent++ & 15, Wire.pieceHead(h, 3 + h, f, h), rest);
                piece("h is " + h, x, 0, 101, h, h < 5 ? -1 : 500 + h, 0);
                Check.due("NOW with h " + h, x.now(0), h < 5 ? -1 : 500 + h);
            }
        }
    }

    private static void timeBits() {
        Check.sentence("the first five of these are 4 bits, 3 bits, a bit, 15 bits, a bit, 15 bits, a bit: the 33 bits"
                + " are its TIME.");
        StreamSplitter x = Wire.tuned();
        long[] times = {0, 1, 32767, 32768, (1L << 30) - 1, 1L << 30, 1L << 31, 1L << 32, LAST, LAST - 1};
        for (int k = 0; k < times.length; k++) {
            int[] five = Wire.row().n(4, k).n(3, times[k] >> 30).n(1, k & 1).n(15, times[k] >> 15).n(1, k >> 1 & 1)
                    .n(15, times[k]).n(1, k >> 2 & 1).end();
            begin(x, k, Wire.pieceHead(k, 8, 0x80, 5), five);
            piece("time", x, 0, 101, k, times[k], 0);
            Check.due("NOW", x.now(0), times[k]);
        }
    }

    private static void behindIsData() {
        Check.sentence("All behind is data, n - 3 - h bytes if n is not 0");
        StreamSplitter x = Wire.tuned();
        int sent = 0;
        for (int h : new int[] {0, 2, 5}) {
            for (int bytes : new int[] {0, 1, 2, 3}) {
                begin(x, sent++, Wire.pieceHead(sent, 3 + h + bytes, 0, h), Wire.fill(h, 7), new int[] {9, 8, 7, 6});
                int[] sums = {0, 9, 9 * 31 + 8, (9 * 31 + 8) * 31 + 7};
                piece("h " + h, x, 0, 101, sent, -1, bytes, sums[bytes]);
            }
        }
        counts("all are done", x, 0, 12);
    }

    private static void sizeBelowNone() {
        Check.sentence("(if that is below 0, nothing else is done)");
        for (int h : new int[] {0, 5, 20}) {
            StreamSplitter x = Wire.tuned();
            int[] rest = Wire.part(Wire.join(Wire.time(77), Wire.fill(20, 255)), 0, Math.max(h, 5));
            int sent = 0;
            for (int n : new int[] {1, 2, 2 + h}) {
                begin(x, sent++, Wire.pieceHead(9, n, 0x80, h), rest);
                counts("n is " + n + ", h is " + h, x, 0, 0);
                Check.due("NOW with n " + n, x.now(0), -1);
            }
            goOn(x, sent++, 184);
            begin(x, sent++, new int[] {0});
            counts("none has begun", x, 0, 0);
            begin(x, sent, Wire.pieceHead(9, 3 + h, 0x80, h), rest);
            counts("n is just enough", x, 0, 1);
            Check.due("NOW", x.now(0), h >= 5 ? 77 : -1);
        }
    }

    private static void sizeNotTold() {
        Check.sentence("else the size isn't told.");
        StreamSplitter x = Wire.tuned();
        begin(x, 0, Wire.pieceHead(9, 0, 0x80, 5), Wire.time(77), Wire.fill(170, 1));
        Check.due("n is 0: it begins", x.now(0), 77);
        for (int k = 1; k <= 6; k++) {
            goOn(x, k, 184);
        }
        goOn(x, 7, 1);
        counts("it isn't done", x, 0, 0);
        begin(x, 8, new int[] {0});
        counts("up to the next one", x, 0, 1);
        piece("all of it", x, 0, 101, 9, 77, 170 + 6 * 184 + 1);
    }

    private static void largestSize() {
        Check.sentence("16 bits n");
        StreamSplitter x = Wire.tuned();
        begin(x, 0, head(9, 65535), Wire.fill(175, 1));
        goOn(x, 1, 184);
        begin(x, 2, head(9, 32768), Wire.fill(175, 1));
        counts("65532 bytes are not whole", x, 1, 0);
        begin(x, 3, head(9, 256), Wire.fill(175, 1));
        counts("nor 32765", x, 2, 0);
        goOn(x, 4, 77);
        counts("nor 252", x, 2, 0);
        goOn(x, 5, 1);
        counts("but 253", x, 2, 1);
        piece("they are", x, 0, 101, 9, -1, 253);
    }

    private static void withoutBeginning() {
        Check.sentence("Without S the payload goes on with what is gathered.");
        StreamSplitter x = Wire.tuned();
        Wire.send(x, Wire.packet(101, false, 0, Wire.join(head(1, 5), new int[] {1, 2})));
        goOn(x, 1, 184);
        counts("nothing is", x, 0, 0);
        begin(x, 2, head(2, 3 + 22), Wire.fill(9, 1));
        Wire.send(x, Wire.packet(101, false, 3, Wire.join(head(3, 5), new int[] {1, 2})));
        counts("a head without S is data", x, 0, 0);
        goOn(x, 4, 2);
        counts("as all is", x, 0, 1);
        piece("one piece", x, 0, 101, 2, -1, 22);
    }

    private static void doneAsSoonAs() {
        Check.sentence("It is done as soon as it has all bytes of a told size (at once, if these are none); what comes"
                + " then is left.");
        for (int size : new int[] {174, 175, 176}) {
            StreamSplitter x = Wire.tuned();
            begin(x, 0, head(9, 3 + size), Wire.fill(175, 1));
            counts("in one packet, " + size, x, 0, size <= 175 ? 1 : 0);
            goOn(x, 1, 184);
            counts("in two, " + size, x, 0, 1);
            piece("no more bytes than " + size, x, 0, 101, 9, -1, size);
            goOn(x, 2, 184);
            begin(x, 3, new int[] {0});
            counts("what comes then " + size, x, 0, 1);
            piece("is left", x, 0, 101, 9, -1, size);
        }
    }

    private static void doneAtOnce() {
        Check.sentence("(at once, if these are none)");
        StreamSplitter x = Wire.tuned();
        begin(x, 0, head(1, 3));
        counts("nothing behind it", x, 0, 1);
        begin(x, 1, head(2, 3), Wire.fill(175, 1));
        counts("a payload behind it", x, 0, 2);
        piece("of which it has nothing", x, 0, 101, 2, -1, 0, 0);
        goOn(x, 2, 184);
        counts("nor of the next", x, 0, 2);
        begin(x, 3, head(3, 4));
        counts("one byte is not none", x, 0, 2);
        goOn(x, 4, 1);
        counts("but now", x, 0, 3);
    }

    private static void doneOverPackets() {
        Check.sentence("It is done as soon as it has all bytes of a told size");
        for (int more : new int[] {-1, 0, 1}) {
            StreamSplitter x = Wire.tuned();
            begin(x, 0, head(9, 3 + 175 + 184 + more), Wire.fill(175, 1));
            goOn(x, 1, 184);
            counts("359 and " + more, x, 0, more <= 0 ? 1 : 0);
            goOn(x, 2, 1);
            counts("and one", x, 0, 1);
            piece("no more", x, 0, 101, 9, -1, 359 + more);
        }
    }

    private static void sums() {
        Check.sentence("Its SUM: 0 at first, for each byte 31 times as much and the byte (wrapping).");
        StreamSplitter x = Wire.tuned();
        int sent = 0;
        boolean below = false;
        for (int bytes : new int[] {1, 5, 6, 7, 8, 13, 175}) {
            int sum = 0;
            for (int k = 0; k < bytes; k++) {
                sum = 31 * sum + 255;
            }
            begin(x, sent++, head(9, 3 + bytes), Wire.fill(bytes, 255));
            piece("sum of " + bytes, x, 0, 101, 9, -1, bytes, sum);
            below |= sum < 0;
        }
        Check.due("some wrap below 0", below ? 1 : 0, 1);
        begin(x, sent, head(9, 7), new int[] {0, 0, 0, 128});
        piece("a high byte", x, 0, 101, 9, -1, 4, 128);
    }

    private static void nowWhenItBegins() {
        Check.sentence("When a piece with a time begins, the NOW of the first programme with a plan with this stream"
                + " becomes its time");
        StreamSplitter x = Wire.tuned();
        x.writeOrder(102, 1, 2 | 32, 500, 0);
        x.take();
        begin(x, 0, Wire.pieceHead(9, 100, 0x80, 5), Wire.time(500));
        Check.due("it has begun", x.now(0), 500);
        Check.due("the order is obeyed", x.programme(0, 5), 1);
        counts("it isn't done", x, 0, 0);
        begin(x, 1, Wire.pieceHead(9, 100, 0, 5), Wire.time(600));
        Check.due("without a time it stays", x.now(0), 500);
        begin(x, 2, Wire.pieceHead(9, 100, 0x80, 5), Wire.time(400));
        Check.due("it may go down", x.now(0), 400);
        Wire.send(x, Wire.packet(103, true, 0, Wire.join(Wire.pieceHead(9, 100, 0x80, 5), Wire.time(700))));
        Check.due("any stream moves it", x.now(0), 700);
    }

    private static void nowOfTheFirst() {
        Check.sentence("the NOW of the first programme with a plan with this stream becomes its time");
        StreamSplitter x = new StreamSplitter();
        x.plan(1, 100);
        for (int k = 1; k <= 3; k++) {
            x.plan(1 + k, 100 * (1 + k));
            x.addStream(k, 2, k == 1 ? 105 : 101);
        }
        x.writeTables(0);
        x.take();
        begin(x, 0, Wire.pieceHead(9, 8, 0x80, 5), Wire.time(500));
        long[] nows = {-1, -1, 500, -1};
        for (int k = 0; k < 4; k++) {
            Check.due("NOW of " + k, x.now(k), nows[k]);
        }
    }

    private static void givenUpWhenBegun() {
        Check.sentence("when there was something (a section with a byte, a piece that had begun and is not done)");
        int[][] rows = {head(1, 0), head(2, 4), Wire.join(head(3, 0), new int[] {1}), Wire.join(head(4, 9), new int[] {1})};
        for (int[] row : rows) {
            StreamSplitter x = Wire.tuned();
            begin(x, 0, row);
            goOn(x, 5, 9);
            counts("a gap", x, 1, 0);
            goOn(x, 9, 9);
            counts("once", x, 1, 0);
            begin(x, 10, row);
            Wire.send(x, Wire.with(Wire.packet(101, true, 11, row), 3, 0x7B));
            counts("X", x, 2, 0);
            begin(x, 12, row);
            x.writeTables(1);
            x.take();
            counts("a list, and a plan behind it", x, 3, 0);
        }
    }

    private static void givenUpNot() {
        Check.sentence("when there was something (a section with a byte, a piece that had begun and is not done)");
        int[][] rows = {head(1, 3), head(2, 2), {0}, Wire.join(head(4, 4), new int[] {1, 1})};
        for (int[] row : rows) {
            StreamSplitter x = Wire.tuned();
            begin(x, 0, row);
            goOn(x, 5, 9);
            begin(x, 6, row);
            Wire.send(x, Wire.with(Wire.packet(101, true, 7, row), 3, 0x77));
            begin(x, 8, row);
            begin(x, 9, row);
            x.writeTables(1);
            x.take();
            Check.due("done or never begun", x.told(8), 0);
        }
    }

    private static void sixteenKept() {
        Check.sentence("Of the pieces that were done, k before the latest one (k = 0 is that one)");
        StreamSplitter x = Wire.tuned();
        for (int k = 0; k < 18; k++) {
            x.writePiece(101 + 8192 * k, k, k, k, true);
            x.take();
            Check.due("the latest", x.piece(0, 1), k);
            for (int back = 14; back <= 17; back++) {
                Check.due(back + " before " + k, x.piece(back, 1), back <= k && back <= 15 ? k - back : -1);
            }
        }
        for (int k = 0; k < 16; k++) {
            piece("kept", x, k, 101, 17 - k, 17 - k, 17 - k);
        }
    }

    private static void notSoMany() {
        Check.sentence("NONE when there are not so many, or k is above 15.");
        StreamSplitter x = Wire.tuned();
        for (int done = 0; done <= 2; done++) {
            for (int what = 0; what <= 4; what++) {
                Check.due("with " + done, x.piece(done, what), -1);
                Check.due("16 with " + done, x.piece(16, what), -1);
                Check.due("the largest with " + done, x.piece(Integer.MAX_VALUE, what), -1);
            }
            x.writePiece(101 + 8192, 5, 1, 1, true);
            x.take();
            Check.due("one more", x.piece(done, 0), 101);
        }
    }

    private static void above15() {
        Check.sentence("NONE when there are not so many, or k is above 15.");
        StreamSplitter x = Wire.tuned();
        for (int done = 1; done <= 40; done++) {
            x.writePiece(101, -1, 0, 1, true);
        }
        x.take();
        Check.due("forty are done", x.told(9), 40);
        for (int what = 0; what <= 4; what++) {
            Check.due("15", x.piece(15, what), what == 0 ? 101 : what == 2 ? -1 : 0);
            for (int k : new int[] {16, 17, 31, 32, 39, 40}) {
                Check.due("k " + k, x.piece(k, what), -1);
            }
        }
    }

    private static void pieceRefused() {
        Check.sentence("IllegalArgumentException: another what, or k is below 0.");
        StreamSplitter none = new StreamSplitter();
        StreamSplitter x = Wire.tuned();
        x.writePiece(101 + 8192 * 7, 5, 0, 1, true);
        x.take();
        for (int what : new int[] {Integer.MIN_VALUE, -1, 5, 6, Integer.MAX_VALUE}) {
            Check.illegal("what " + what, () -> x.piece(0, what));
            Check.illegal("before NONE " + what, () -> x.piece(16, what));
            Check.illegal("with none " + what, () -> none.piece(0, what));
        }
        for (int k : new int[] {Integer.MIN_VALUE, -16, -1}) {
            Check.illegal("k " + k, () -> x.piece(k, 0));
            Check.illegal("with none, k " + k, () -> none.piece(k, 4));
        }
        piece("what 0 to 4", x, 0, 101, 7, 5, 0, 0);
    }
}
