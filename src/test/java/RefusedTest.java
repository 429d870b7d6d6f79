/** "a call that throws, or answers NONE, changes nothing (writeTables() writes all or nothing)". */
public final class RefusedTest {
    private static final int LAST_STEP = 6;

    public static void main(String[] args) {
        Check.sentence("a call that throws, or answers NONE, changes nothing");
        for (int at = 0; at <= LAST_STEP; at++) {
            StreamSplitter x = new StreamSplitter();
            StreamSplitter y = new StreamSplitter();
            for (int step = 0; step <= LAST_STEP; step++) {
                if (step == at) {
                    refusedArguments(x, step);
                    refusedAnswers(x, step);
                }
                step(x, step);
                step(y, step);
            }
            same("refused before step " + at, x, y);
        }
        Check.end();
    }

    /** A run that leaves something of all there is. */
    private static void step(StreamSplitter x, int step) {
        switch (step) {
            case 1:
                x.plan(1, 100);
                x.addStream(0, 2, 101);
                x.addStream(0, 134, 102);
                x.addStream(0, 3, 103);
                x.addStream(0, 4, 104);
                x.plan(2, 200);
                x.plan(3, 300);
                x.plan(4, 400);
                break;
            case 2:
                x.writeTables(5);
                x.take();
                break;
            case 3:
                x.writePiece(101 + 8192 * 9, 700, 20, 3, true);
                x.writeOrder(102, 6, 2 | 4 | 8 | 16, 0, 50);
                x.writeOrder(102, 7, 2 | 8 | 16 | 32, 5000, 60);
                x.take();
                break;
            case 4:
                // A piece and an order that are gathered, and bytes of a packet to come.
                x.writePiece(103, -1, 200, 3, true);
                x.drop(188, 188);
                x.take();
                Wire.send(x, Wire.packet(102, true, 2, new int[] {0, 252}), new int[] {71, 9, 9});
                break;
            case 5:
                x.drop(0, 3);
                Wire.tapeOf(x, 9400);
                break;
            case 6:
                x.drop(0, 9400 - 376);
                x.take();
                break;
            default:
                break;
        }
    }

    private static void refusedArguments(StreamSplitter x, int step) {
        String at = " at step " + step;
        Check.illegal("feed 0" + at, () -> x.feed(0, -1));
        Check.illegal("feed 9" + at, () -> x.feed(9, -1));
        Check.outside("spoil" + at, () -> x.spoil(x.told(0), 1));
        Check.outside("drop" + at, () -> x.drop(0, x.told(0) + 1));
        Check.outside("drop below" + at, () -> x.drop(-1, 1));
        Check.outside("seal" + at, () -> x.seal(0, x.told(0) - 3));
        Check.illegal("told" + at, () -> x.told(12));
        Check.illegal("programme" + at, () -> x.programme(0, 7));
        Check.outside("programme k" + at, () -> x.programme(4, 0));
        Check.outside("stream" + at, () -> x.stream(4, 0));
        Check.outside("now" + at, () -> x.now(4));
        Check.illegal("order" + at, () -> x.order(0, 0, 4));
        Check.outside("order k" + at, () -> x.order(4, 0, 0));
        Check.illegal("piece" + at, () -> x.piece(0, 5));
        Check.illegal("piece k" + at, () -> x.piece(-1, 0));
        Check.illegal("clock" + at, () -> x.clock(8192));
        Check.illegal("plan" + at, () -> x.plan(0, 100));
        Check.illegal("plan's pid" + at, () -> x.plan(9, 8192));
        Check.outside("addStream" + at, () -> x.addStream(4, 1, 1));
        Check.illegal("writeTables" + at, () -> x.writeTables(32));
        Check.illegal("writePiece" + at, () -> x.writePiece(101, 1L << 33, 5, 1, true));
        Check.illegal("writePiece's n" + at, () -> x.writePiece(101, 0, 4001, 1, true));
        Check.illegal("writeOrder" + at, () -> x.writeOrder(102, 1, 64, 0, 0));
        Check.illegal("writeOrder's length" + at, () -> x.writeOrder(102, 1, 2, 0, -1));
    }

    private static void refusedAnswers(StreamSplitter x, int step) {
        String at = " at step " + step;
        Check.due("piece" + at, x.piece(16, 0), -1);
        Check.due("clock" + at, x.clock(5), -1);
        if (step >= 2) {
            Check.illegal("addStream's type" + at, () -> x.addStream(0, 256, 1));
            Check.due("a fifth programme" + at, x.plan(5, 500), -1);
            Check.due("a fifth stream" + at, x.addStream(0, 5, 105), -1);
        }
        if (step >= 3) {
            Check.due("no stream" + at, x.stream(0, 4), -1);
            Check.due("no order" + at, x.order(0, 5, 0), -1);
            Check.due("no NOW" + at, x.now(3), -1);
        }
        if (step == 6) {
            Check.illegal("spoil's v" + at, () -> x.spoil(0, 256));
            Check.due("no room to feed" + at, x.feed(1, 71), -1);
            Check.due("no room for tables" + at, x.writeTables(9), -1);
            Check.due("no room for a piece" + at, x.writePiece(101, 900, 4000, 1, true), -1);
            Check.due("no room for an order" + at, x.writeOrder(102, 8, 4, 0, 0), -1);
        }
    }

    /** Compares all that two objects tell, and what they write then. */
    private static void same(String what, StreamSplitter x, StreamSplitter y) {
        for (int k = 0; k <= 11; k++) {
            Check.due(what + ": told " + k, x.told(k), y.told(k));
        }
        for (int k = 0; k < 4; k++) {
            for (int w = 0; w <= 6; w++) {
                Check.due(what + ": programme " + k + " " + w, x.programme(k, w), y.programme(k, w));
            }
            Check.due(what + ": now " + k, x.now(k), y.now(k));
            Check.due(what + ": stream " + k, x.stream(k, 3), y.stream(k, 3));
        }
        for (int j = 0; j < 3; j++) {
            for (int w = 0; w <= 3; w++) {
                Check.due(what + ": order " + j + " " + w, x.order(0, j, w), y.order(0, j, w));
            }
        }
        for (int w = 0; w <= 4; w++) {
            Check.due(what + ": piece " + w, x.piece(0, w), y.piece(0, w));
        }
        x.writeTables(6);
        y.writeTables(6);
        x.writePiece(101, 5, 9, 3, true);
        y.writePiece(101, 5, 9, 3, true);
        x.writeOrder(102, 9, 1, 0, 0);
        y.writeOrder(102, 9, 1, 0, 0);
        int written = y.told(0);
        Check.due(what + ": written", x.told(0), written);
        for (int i = 0; i < written; i += 8) {
            Check.due(what + ": bytes from " + i, x.tape(i), y.tape(i));
        }
        Check.due(what + ": taken", x.take(), y.take());
        for (int k = 0; k <= 11; k++) {
            Check.due(what + ": told at last " + k, x.told(k), y.told(k));
        }
    }
}
