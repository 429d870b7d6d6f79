/** Promises 9 and 10, and what promise 7 says of lists and plans and what a PID is for. */
public final class TablesTest {
    public static void main(String[] args) {
        list();
        listEdges();
        programmesThatStay();
        plan();
        planEdges();
        planOfTheFirst();
        whatAPidIsFor();
        wrongArguments();
        Check.end();
    }

    private static void programme(String what, StreamSplitter x, int k, int... want) {
        for (int w = 0; w < want.length; w++) {
            Check.due(what + ": programme " + k + " " + w, x.programme(k, w), want[w]);
        }
    }

    private static void list() {
        StreamSplitter x = new StreamSplitter();
        Wire.send(x, Wire.sections(0, 0, Wire.list(31, 0, 16, 65535, 8191, 1, 0, 0, 5, 2, 300, 3, 4, 4, 5)));
        Check.due("version", x.told(10), 31);
        Check.due("four, without those of number 0", x.told(11), 4);
        programme("list", x, 0, 65535, 8191, -1, -1, 0, 0, 0);
        programme("list", x, 1, 1, 0, -1, -1, 0, 0, 0);
        programme("list", x, 2, 2, 300, -1, -1, 0, 0, 0);
        programme("list", x, 3, 3, 4, -1, -1, 0, 0, 0);
        Check.outside("no fifth", () -> x.programme(4, 0));
        Wire.send(x, Wire.sections(0, 1, Wire.list(31, 9, 9)));
        Check.due("the same version isn't used", x.told(11), 4);
        Wire.send(x, Wire.sections(0, 2, Wire.list(0)));
        Check.due("version 0", x.told(10), 0);
        Check.due("none left", x.told(11), 0);
        Wire.send(x, Wire.sections(0, 3, Wire.list(31, 9, 9)));
        Check.due("not that in force", x.programme(0, 0), 9);
    }

    /** A list of version 2 with a byte changed, or one more behind. */
    private static int[] listWith(int at, int value) {
        int[] body = Wire.row().bytes(0, 0xB0, 0, 0, 0, 0xC5, 0, 0).n(16, 7).n(3, 0).n(13, 70).end();
        if (at >= body.length) {
            return Wire.section(Wire.join(body, new int[at + 1 - body.length]));
        }
        body[at] = value;
        return Wire.section(body);
    }

    private static void listEdges() {
        StreamSplitter x = new StreamSplitter();
        Wire.send(x, Wire.sections(0, 0, listWith(0, 2), listWith(5, 0xC4), listWith(6, 1), listWith(7, 1),
                listWith(12, 0), listWith(13, 0), listWith(14, 0)));
        Check.due("all are good", x.told(6), 7);
        Check.due("none is used", x.told(10), -1);
        Wire.send(x, Wire.sections(0, 1, listWith(5, 0x05)));
        Check.due("the first two bits mean nothing", x.told(10), 2);
        programme("bits that mean nothing", x, 0, 7, 70);
        Wire.send(x, Wire.sections(70, 0, listWith(5, 0xC7)));
        Check.due("a list with another PID", x.told(10), 2);
        Check.due("is good all the same", x.told(6), 9);
    }

    private static void programmesThatStay() {
        StreamSplitter x = new StreamSplitter();
        Wire.send(x, Wire.sections(0, 0, Wire.list(1, 1, 100, 2, 200, 1, 100)));
        Wire.send(x, Wire.sections(100, 0, Wire.plan(1, 3, 101, 2, 101, 134, 102)));
        x.writePiece(101, 500, 1, 1, true);
        x.writeOrder(102, 9, 2 | 4, 0, 0);
        x.writeOrder(102, 8, 32, 4000, 0);
        x.take();
        programme("before", x, 0, 1, 100, 3, 101, 2, 1, 1);
        programme("before", x, 2, 1, 100, -1, -1, 0, 0, 0);
        Wire.send(x, Wire.sections(0, 1, Wire.list(2, 2, 100, 1, 100, 1, 101, 1, 100)));
        programme("another number", x, 0, 2, 100, -1, -1, 0, 0, 0);
        programme("the first one was so", x, 1, 1, 100, 3, 101, 2, 1, 1);
        programme("another PID", x, 2, 1, 101, -1, -1, 0, 0, 0);
        programme("as the first one was", x, 3, 1, 100, 3, 101, 2, 1, 1);
        Check.due("its NOW", x.now(1), 500);
        Check.due("its NOW, too", x.now(3), 500);
        Check.due("its order", x.order(3, 0, 0), 4000);
        Check.due("its stream", x.stream(3, 1), 134 * 65536 + 102);
        Wire.send(x, Wire.sections(0, 2, Wire.list(3, 1, 100, 1, 100)));
        x.writeOrder(102, 8, 1, 0, 0);
        x.take();
        Check.due("cancelled in the first", x.programme(0, 6), 0);
        Check.due("not in its copy", x.programme(1, 6), 1);
        Wire.send(x, Wire.sections(0, 3, Wire.list(4)));
        Wire.send(x, Wire.sections(0, 4, Wire.list(5, 1, 100)));
        programme("what was gone is new", x, 0, 1, 100, -1, -1, 0, 0, 0);
        Check.due("without NOW", x.now(0), -1);
    }

    private static void plan() {
        StreamSplitter x = new StreamSplitter();
        Wire.send(x, Wire.sections(0, 0, Wire.list(1, 1, 100)));
        Wire.send(x, Wire.sections(100, 0, Wire.plan(1, 0, 8191, 0, 8191, 255, 0, 134, 102, 2, 101)));
        programme("plan", x, 0, 1, 100, 0, 8191, 4, 0, 0);
        Check.due("stream 0", x.stream(0, 0), 8191);
        Check.due("stream 1", x.stream(0, 1), 255 * 65536);
        Check.due("stream 2", x.stream(0, 2), 134 * 65536 + 102);
        Check.due("stream 3", x.stream(0, 3), 2 * 65536 + 101);
        Check.due("stream 4", x.stream(0, 4), -1);
        Check.due("stream -1", x.stream(0, -1), -1);
        x.writeOrder(102, 8, 32, 4000, 0);
        x.writeOrder(102, 9, 6, 0, 0);
        x.writePiece(101, 500, 1, 1, true);
        x.take();
        Wire.send(x, Wire.sections(100, 1, Wire.plan(1, 0, 5)));
        programme("the same version isn't used", x, 0, 1, 100, 0, 8191, 4, 1, 1);
        Wire.send(x, Wire.sections(100, 2, Wire.plan(1, 1, 5)));
        programme("a plan without streams", x, 0, 1, 100, 1, 5, 0, 1, 1);
        Check.due("NOW stays", x.now(0), 500);
        Check.due("no stream", x.stream(0, 0), -1);
    }

    /** A plan of programme 1 with bytes from byte 8 on. */
    private static int[] planOf(int version, int... rest) {
        int[] head = Wire.row().bytes(2, 0xB0, 0, 0, 1).n(2, 0).n(5, version).n(1, 1).bytes(0, 0).end();
        return Wire.section(Wire.join(head, rest));
    }

    private static int[] planWith(int at, int value) {
        int[] body = {2, 0xB0, 0, 0, 1, 0xC3, 0, 0, 0, 0, 0, 0};
        body[at] = value;
        return Wire.section(body);
    }

    private static void planEdges() {
        StreamSplitter x = new StreamSplitter();
        Wire.send(x, Wire.sections(0, 0, Wire.list(1, 1, 100, 2, 200)));
        Wire.send(x, Wire.sections(100, 0, planWith(0, 0), planWith(3, 1), planWith(4, 2), planWith(5, 0xC2),
                planWith(6, 1), planWith(7, 1)));
        programme("bytes that must be", x, 0, 1, 100, -1, -1, 0);
        programme("of another PID", x, 1, 2, 200, -1, -1, 0);
        Wire.send(x, Wire.sections(100, 1, planOf(2), planOf(3, 0, 0, 0), planOf(4, 0, 0, 0, 1),
                planOf(5, 0, 0, 0, 0, 9), planOf(6, 0, 0, 0, 0, 2, 0, 9, 0), planOf(7, 0, 0, 0, 0, 2, 0, 9, 0, 1)));
        Check.due("all are good", x.told(6), 13);
        programme("streams that don't end with the section", x, 0, 1, 100, -1, -1, 0);
        Wire.send(x, Wire.sections(100, 2, Wire.plan(1, 8, 0, 1, 1, 2, 2, 3, 3, 4, 4, 5, 5)));
        programme("five streams", x, 0, 1, 100, -1, -1, 0);
        int[] five = planOf(8, 0, 0, 0, 5, 9, 9, 9, 9, 9);
        int[] more = planOf(9, 0xFF, 0xFE, 0xF0, 2, 9, 9, 27, 0xE1, 0, 0xF0, 1, 9, 3, 0, 7, 0, 0);
        Wire.send(x, Wire.sections(100, 3, five));
        programme("n bytes alone", x, 0, 1, 100, 8, 0, 0);
        Wire.send(x, Wire.sections(100, 4, more));
        programme("n bytes everywhere", x, 0, 1, 100, 9, 8190, 2);
        Check.due("first", x.stream(0, 0), 27 * 65536 + 256);
        Check.due("second", x.stream(0, 1), 3 * 65536 + 7);
        int[] head = {0, 0, 0, 0, 2, 0, 9, 1, 64};
        Wire.send(x, Wire.packet(100, true, 5, Wire.join(new int[] {0}, part(planOf(10, Wire.join(head, Wire.fill(320, 1))), 0, 183))));
        Wire.send(x, Wire.packet(100, false, 6, part(planOf(10, Wire.join(head, Wire.fill(320, 1))), 183, 341)));
        programme("n above 255", x, 0, 1, 100, 10, 0, 1);
    }

    private static int[] part(int[] row, int from, int to) {
        return java.util.Arrays.copyOfRange(row, from, to);
    }

    private static void planOfTheFirst() {
        StreamSplitter x = new StreamSplitter();
        Wire.send(x, Wire.sections(0, 0, Wire.list(1, 1, 100, 1, 100, 2, 100)));
        Wire.send(x, Wire.sections(100, 0, Wire.plan(1, 1, 5), Wire.plan(1, 1, 6), Wire.plan(2, 1, 7)));
        programme("the first one has it", x, 0, 1, 100, 1, 5);
        programme("the second never", x, 1, 1, 100, -1, -1);
        programme("one PID for two programmes", x, 2, 2, 100, 1, 7);
    }

    private static void whatAPidIsFor() {
        StreamSplitter x = new StreamSplitter();
        x.writePiece(103, -1, 9, 1, true);
        x.take();
        Check.due("for nothing", x.told(9), 0);
        Wire.send(x, Wire.sections(0, 0, Wire.list(1, 1, 100, 2, 200, 3, 0)));
        Wire.send(x, Wire.sections(0, 1, Wire.plan(3, 1, 5)));
        programme("PID 0 is for the list alone", x, 2, 3, 0, -1);
        Wire.send(x, Wire.sections(200, 0, Wire.plan(2, 1, 0, 134, 103, 2, 104, 2, 100)));
        x.writePiece(104, 7, 9, 1, true);
        x.take();
        Check.due("for pieces", x.told(9), 1);
        Check.due("NOW of the one that has a plan", x.now(1), 7);
        Wire.send(x, Wire.sections(100, 0, Wire.plan(1, 1, 0, 2, 103, 134, 103, 134, 104, 2, 200)));
        Check.due("a plan's PID, though a stream's too", x.programme(0, 2), 1);
        x.writePiece(103, 8, 9, 1, true);
        x.writePiece(104, 9, 9, 1, true);
        x.writeOrder(104, 1, 6, 0, 0);
        x.take();
        Check.due("the first stream says it: a piece", x.now(0), 8);
        Check.due("the first programme says it: no piece", x.now(1), 7);
        Check.due("but orders", x.programme(0, 5), 1);
        Check.due("of the first programme", x.programme(1, 5), 0);
    }

    private static void wrongArguments() {
        StreamSplitter x = new StreamSplitter();
        Check.illegal("what is looked at first", () -> x.programme(0, 7));
        Check.illegal("what -1", () -> x.programme(0, -1));
        Check.outside("no stream's programme", () -> x.stream(0, 0));
        Wire.send(x, Wire.sections(0, 0, Wire.list(1, 1, 100)));
        Check.illegal("what 7", () -> x.programme(0, 7));
        Check.outside("programme -1", () -> x.programme(-1, 0));
        Check.outside("programme 1", () -> x.programme(1, 0));
        Check.outside("stream of programme -1", () -> x.stream(-1, 0));
        Check.outside("stream of programme 1", () -> x.stream(1, 0));
        Check.due("no stream without a plan", x.stream(0, 0), -1);
        Check.due("stream at the largest", x.stream(0, Integer.MAX_VALUE), -1);
    }
}
