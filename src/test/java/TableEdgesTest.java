/** The boundary cases of lists and plans, and of promises 9 and 10, a sentence of the document at a time. */
public final class TableEdgesTest {
    private static final int LOWEST = Integer.MIN_VALUE;
    private static final int HIGHEST = Integer.MAX_VALUE;

    public static void main(String[] args) {
        listMust();
        listVersions();
        listWholeEntries();
        listFirstFour();
        listNumbers();
        listStays();
        listStaysAsTheFirst();
        listNew();
        planMust();
        planVersions();
        planOfTheFirst();
        planClock();
        planEnds();
        planEndsWithMore();
        planAtMostFour();
        planKeeps();
        inForceGivesUp();
        notInForceGivesUpNothing();
        brokenTablesGiveUpNothing();
        ordersGiveUpNothing();
        pidZero();
        pidOfPlanAndStream();
        typeOfOrders();
        firstStreamCounts();
        programmeRefused();
        programmeWithoutPlan();
        streamRefused();
        Check.end();
    }

    private static StreamSplitter listed(int... numbersAndPids) {
        StreamSplitter x = new StreamSplitter();
        Wire.send(x, Wire.sections(0, 0, Wire.list(1, numbersAndPids)));
        return x;
    }

    private static void programme(String what, StreamSplitter x, int k, int... want) {
        for (int w = 0; w < want.length; w++) {
            Check.due(what + ": programme " + k + " " + w, x.programme(k, w), want[w]);
        }
    }

    private static void listMust() {
        Check.sentence("the byte 5: two bits, VERSION (5 bits), a bit that must be 1; bytes 6 and 7 must be 0.");
        int[] body = Wire.part(Wire.list(5, 1, 100), 0, 12);
        for (int bit = 0; bit < 8; bit++) {
            StreamSplitter x = new StreamSplitter();
            int fifth = body[5] ^ 1 << bit;
            Wire.send(x, Wire.sections(0, 0, Wire.section(Wire.with(body, 5, fifth))));
            Check.due("byte 5 with bit " + bit + " changed", x.told(10), bit == 0 ? -1 : fifth >> 1 & 31);
            StreamSplitter y = new StreamSplitter();
            Wire.send(y, Wire.sections(0, 0, Wire.section(Wire.with(body, 6, 1 << bit)),
                    Wire.section(Wire.with(body, 7, 1 << bit))));
            Check.due("bytes 6 and 7 with bit " + bit, y.told(10), -1);
            Check.due("they are good", y.told(6), 2);
        }
    }

    private static void listVersions() {
        Check.sentence("One with the version of the one that is in force (of its programme) isn't used.");
        for (int version : new int[] {0, 1, 15, 16, 30, 31}) {
            StreamSplitter x = new StreamSplitter();
            Wire.send(x, Wire.sections(0, 0, Wire.list(version, 1, 100)));
            Check.due("version", x.told(10), version);
            Wire.send(x, Wire.sections(0, 1, Wire.list(version, 2, 200, 3, 300)));
            Check.due("the same isn't used", x.told(11), 1);
            Check.due("but good", x.told(6), 2);
            int other = version ^ 1;
            Wire.send(x, Wire.sections(0, 2, Wire.list(other, 2, 200, 3, 300), Wire.list(version, 7, 70)));
            Check.due("one that was in force before is used", x.told(10), version);
            Check.due("its programme", x.programme(0, 0), 7);
        }
    }

    private static void listWholeEntries() {
        Check.sentence("from byte 8 on entries of four bytes, a whole number of them (else it isn't used)");
        int[] body = Wire.part(Wire.list(5, 1, 100, 2, 200), 0, 16);
        for (int bytes = 8; bytes <= 16; bytes++) {
            StreamSplitter x = new StreamSplitter();
            Wire.send(x, Wire.sections(0, 0, Wire.section(Wire.part(body, 0, bytes))));
            boolean whole = bytes % 4 == 0;
            Check.due("version with " + bytes, x.told(10), whole ? 5 : -1);
            Check.due("programmes with " + bytes, x.told(11), whole ? bytes / 4 - 2 : 0);
        }
        int[] five = Wire.part(Wire.list(5, 1, 1, 2, 2, 3, 3, 4, 4, 5, 5), 0, 28);
        StreamSplitter x = new StreamSplitter();
        Wire.send(x, Wire.sections(0, 0, Wire.section(Wire.part(five, 0, 27))));
        Check.due("also behind the first four", x.told(10), -1);
    }

    private static void listFirstFour() {
        Check.sentence("the first four of those whose number isn't 0 are the PROGRAMMES.");
        StreamSplitter x = new StreamSplitter();
        for (int count = 0; count <= 6; count++) {
            int[] entries = new int[2 * count];
            for (int k = 0; k < count; k++) {
                entries[2 * k] = k + 1;
                entries[2 * k + 1] = 100 + k;
            }
            Wire.send(x, Wire.sections(0, count, Wire.list(count, entries)));
            int kept = Math.min(4, count);
            Check.due("of " + count, x.told(11), kept);
            Check.outside("no more of " + count, () -> x.programme(kept, 0));
            if (count > 0) {
                programme("the last of " + count, x, kept - 1, kept, 99 + kept);
            }
        }
    }

    private static void listNumbers() {
        Check.sentence("16 bits number, 3 bits, 13 bits PID");
        StreamSplitter x = new StreamSplitter();
        Wire.send(x, Wire.sections(0, 0, Wire.list(1, 0, 1, 0, 2, 1, 0, 0, 3, 65535, 8191, 256, 4096, 0, 4, 32768, 1)));
        Check.due("those of number 0 are passed", x.told(11), 4);
        programme("first", x, 0, 1, 0);
        programme("second", x, 1, 65535, 8191);
        programme("third", x, 2, 256, 4096);
        programme("fourth", x, 3, 32768, 1);
        int[] body = Wire.row().bytes(0, 0, 0, 0, 0, 5, 0, 0).n(16, 9).n(3, 0).n(13, 8191).end();
        Wire.send(x, Wire.sections(0, 1, Wire.section(body)));
        programme("the three bits mean nothing", x, 0, 9, 8191);
        Wire.send(x, Wire.sections(0, 2, Wire.list(3, 0, 5)));
        Check.due("0 alone", x.told(11), 0);
        Check.due("is in force", x.told(10), 3);
    }

    /** Programme 1 with all it can have: a plan, away, a NOW, an order that waits. */
    private static StreamSplitter busy(int... numbersAndPids) {
        StreamSplitter x = listed(numbersAndPids);
        Wire.send(x, Wire.sections(100, 0, Wire.plan(1, 3, 101, 2, 101, 134, 102)));
        x.writePiece(101, 500, 1, 1, true);
        x.writeOrder(102, 9, 2 | 4, 0, 0);
        x.writeOrder(102, 8, 32, 4000, 0);
        x.take();
        return x;
    }

    private static void listStays() {
        Check.sentence("One that was there with the same number and PID stays as it is");
        StreamSplitter x = busy(1, 100);
        programme("before", x, 0, 1, 100, 3, 101, 2, 1, 1);
        Wire.send(x, Wire.sections(0, 1, Wire.list(2, 5, 500, 1, 100)));
        programme("moved", x, 1, 1, 100, 3, 101, 2, 1, 1);
        Check.due("its NOW", x.now(1), 500);
        Check.due("its order's time", x.order(1, 0, 0), 4000);
        Check.due("its order's name", x.order(1, 0, 1), 8);
        Check.due("its stream", x.stream(1, 1), 134 * 65536 + 102);
        programme("the other is new", x, 0, 5, 500, -1, -1, 0, 0, 0);
        Check.due("without NOW", x.now(0), -1);
        x.writePiece(101, 4000, 1, 1, true);
        x.take();
        programme("its order is obeyed", x, 1, 1, 100, 3, 101, 2, 0, 0);
        Wire.send(x, Wire.sections(100, 1, Wire.plan(1, 3, 7)));
        programme("its version is in force", x, 1, 1, 100, 3, 101, 2, 0, 0);
    }

    private static void listStaysAsTheFirst() {
        Check.sentence("(each such one as the first of the old ones was)");
        StreamSplitter x = busy(1, 100, 1, 100);
        programme("the second has no plan", x, 1, 1, 100, -1, -1, 0, 0, 0);
        Wire.send(x, Wire.sections(0, 1, Wire.list(2, 1, 100, 1, 100, 1, 100)));
        for (int k = 0; k < 3; k++) {
            programme("each is as the first", x, k, 1, 100, 3, 101, 2, 1, 1);
            Check.due("NOW " + k, x.now(k), 500);
            Check.due("order " + k, x.order(k, 0, 0), 4000);
        }
        x.writeOrder(102, 8, 1, 0, 0);
        x.writeOrder(102, 7, 4, 0, 0);
        x.writePiece(101, 600, 1, 1, true);
        x.take();
        programme("what comes is for the first", x, 0, 1, 100, 3, 101, 2, 0, 0);
        Check.due("its NOW", x.now(0), 600);
        programme("not for the second", x, 1, 1, 100, 3, 101, 2, 1, 1);
        Check.due("whose NOW stays", x.now(1), 500);
        Wire.send(x, Wire.sections(100, 1, Wire.plan(1, 4, 7)));
        programme("a plan, too", x, 0, 1, 100, 4, 7, 0, 0, 0);
        programme("not for the third", x, 2, 1, 100, 3, 101, 2, 1, 1);
    }

    private static void listNew() {
        Check.sentence("others are new: no plan, not AWAY, no NOW, no orders wait.");
        int[][] others = {{2, 100}, {1, 101}, {257, 100}, {1, 356}};
        for (int[] other : others) {
            StreamSplitter x = busy(1, 100);
            Wire.send(x, Wire.sections(0, 1, Wire.list(2, other)));
            programme("another", x, 0, other[0], other[1], -1, -1, 0, 0, 0);
            Check.due("no NOW", x.now(0), -1);
            Check.due("no order", x.order(0, 0, 0), -1);
            Check.due("no stream", x.stream(0, 0), -1);
            Wire.send(x, Wire.sections(0, 2, Wire.list(3, 1, 100)));
            programme("what was gone is new", x, 0, 1, 100, -1, -1, 0, 0, 0);
            Check.due("without NOW", x.now(0), -1);
        }
    }

    private static void planMust() {
        Check.sentence("the byte 5: two bits, VERSION (5 bits), a bit that must be 1; bytes 6 and 7 must be 0.");
        int[] body = Wire.part(Wire.plan(1, 5, 9), 0, 12);
        for (int bit = 0; bit < 8; bit++) {
            StreamSplitter x = listed(1, 100);
            Wire.send(x, Wire.sections(100, 0, Wire.section(Wire.with(body, 6, 1 << bit)),
                    Wire.section(Wire.with(body, 7, 1 << bit))));
            Check.due("bytes 6 and 7 with bit " + bit, x.programme(0, 2), -1);
            int fifth = body[5] ^ 1 << bit;
            Wire.send(x, Wire.sections(100, 1, Wire.section(Wire.with(body, 5, fifth))));
            Check.due("byte 5 with bit " + bit + " changed", x.programme(0, 2), bit == 0 ? -1 : fifth >> 1 & 31);
            Check.due("all are good", x.told(6), 4);
        }
    }

    private static void planVersions() {
        Check.sentence("One with the version of the one that is in force (of its programme) isn't used.");
        StreamSplitter x = listed(1, 100, 2, 100);
        for (int version : new int[] {0, 31}) {
            Wire.send(x, Wire.sections(100, version & 15, Wire.plan(1, version, 5), Wire.plan(1, version, 6)));
            programme("the same isn't used", x, 0, 1, 100, version, 5);
            Wire.send(x, Wire.sections(100, version + 1 & 15, Wire.plan(2, version, 7)));
            programme("of another programme it is", x, 1, 2, 100, version, 7);
        }
        Wire.send(x, Wire.sections(100, 1, Wire.plan(1, 0, 8)));
        programme("one that was in force before", x, 0, 1, 100, 0, 8);
        StreamSplitter y = new StreamSplitter();
        Wire.send(y, Wire.sections(0, 0, Wire.list(9, 1, 100)));
        Wire.send(y, Wire.sections(100, 0, Wire.plan(1, 9, 5)));
        programme("the list's version is another", y, 0, 1, 100, 9, 5);
    }

    private static void planOfTheFirst() {
        Check.sentence("it is for the first one with this number and the PID on which it came.");
        StreamSplitter x = listed(1, 100, 1, 200, 258, 100, 1, 100);
        Wire.send(x, Wire.sections(200, 0, Wire.plan(1, 1, 5), Wire.plan(258, 1, 6)));
        programme("of another PID", x, 0, 1, 100, -1, -1);
        programme("of this PID", x, 1, 1, 200, 1, 5);
        programme("another number, another PID", x, 2, 258, 100, -1, -1);
        Wire.send(x, Wire.sections(100, 0, Wire.plan(1, 2, 7), Wire.plan(258, 3, 8), Wire.plan(2, 4, 9)));
        programme("the first of two", x, 0, 1, 100, 2, 7);
        programme("both bytes of the number", x, 2, 258, 100, 3, 8);
        programme("the second of two", x, 3, 1, 100, -1, -1);
        Wire.send(x, Wire.sections(100, 1, Wire.plan(1, 2, 9)));
        programme("never has one", x, 3, 1, 100, -1, -1);
    }

    private static void planClock() {
        Check.sentence("Bytes 8 and 9: 3 bits, 13 bits the PID of its clock");
        StreamSplitter x = listed(1, 100);
        int version = 0;
        for (int pid : new int[] {0, 1, 255, 256, 4096, 8191}) {
            Wire.send(x, Wire.sections(100, version, Wire.plan(1, version, pid)));
            Check.due("clock's PID", x.programme(0, 3), pid);
            version++;
        }
    }

    /** A plan of programme 1 with bytes from byte 8 on. */
    private static int[] planOf(int version, int... rest) {
        int[] head = Wire.row().bytes(2, 0xB0, 0, 0, 1).n(2, 0).n(5, version).n(1, 1).bytes(0, 0).end();
        return Wire.section(Wire.join(head, rest));
    }

    private static void planEnds() {
        Check.sentence("It is used if they end with the section");
        int[] whole = {0xE0, 9, 0xF0, 0, 2, 0xE0, 101, 0xF0, 0, 3, 0xE0, 103, 0xF0, 0};
        for (int bytes = 0; bytes <= 14; bytes++) {
            StreamSplitter x = listed(1, 100);
            Wire.send(x, Wire.sections(100, 0, planOf(5, Wire.part(whole, 0, bytes))));
            boolean ends = bytes == 4 || bytes == 9 || bytes == 14;
            Check.due("good with " + bytes, x.told(6), 2);
            Check.due("version with " + bytes, x.programme(0, 2), ends ? 5 : -1);
            Check.due("streams with " + bytes, x.programme(0, 4), ends ? (bytes - 4) / 5 : 0);
        }
    }

    private static void planEndsWithMore() {
        Check.sentence("10 and 11: 4 bits, 12 bits n; n bytes; then streams: a byte type, 3 bits, 13 bits PID, 4 bits,"
                + " 12 bits n, n bytes.");
        for (int n = 0; n <= 7; n++) {
            StreamSplitter x = listed(1, 100);
            Wire.send(x, Wire.sections(100, 0, planOf(5, Wire.join(new int[] {0, 9, 0xF0, n}, Wire.fill(5, 0)))));
            Check.due("n of the plan is " + n, x.programme(0, 2), n == 0 || n == 5 ? 5 : -1);
            Check.due("its streams", x.programme(0, 4), n == 0 ? 1 : 0);
            StreamSplitter y = listed(1, 100);
            int[] stream = {2, 0, 101, 0, n, 0, 0, 0, 0, 0};
            Wire.send(y, Wire.sections(100, 0, planOf(5, Wire.join(new int[] {0, 9, 0, 0}, stream))));
            Check.due("n of a stream is " + n, y.programme(0, 2), n == 0 || n == 5 ? 5 : -1);
            Check.due("streams", y.programme(0, 4), n == 0 ? 2 : n == 5 ? 1 : 0);
        }
        StreamSplitter x = listed(1, 100);
        int[] large = planOf(5, Wire.join(new int[] {0, 9, 1, 0}, Wire.fill(256, 0), new int[] {2, 0, 101, 0, 0}));
        Wire.send(x, Wire.packet(100, true, 0, Wire.pointed(0, Wire.part(large, 0, 183))));
        Wire.send(x, Wire.packet(100, false, 1, Wire.part(large, 183, large.length)));
        Check.due("n is 256", x.stream(0, 0), 2 * 65536 + 101);
        Wire.send(x, Wire.sections(100, 2, planOf(6, 0, 9, 15, 255), planOf(7, 0, 9, 0, 0, 2, 0, 101, 15, 255)));
        Check.due("n is 4095 of none", x.programme(0, 2), 5);
    }

    private static void planAtMostFour() {
        Check.sentence("and there are at most four");
        for (int count = 0; count <= 6; count++) {
            StreamSplitter x = listed(1, 100);
            int[] streams = new int[2 * count];
            for (int j = 0; j < count; j++) {
                streams[2 * j] = 10 + j;
                streams[2 * j + 1] = 200 + j;
            }
            Wire.send(x, Wire.sections(100, 0, Wire.plan(1, 5, 9, streams)));
            Check.due("version with " + count, x.programme(0, 2), count <= 4 ? 5 : -1);
            Check.due("streams with " + count, x.programme(0, 4), count <= 4 ? count : 0);
            for (int j = -1; j <= 5; j++) {
                boolean there = count <= 4 && j >= 0 && j < count;
                Check.due("stream " + j + " of " + count, x.stream(0, j), there ? (10 + j) * 65536 + 200 + j : -1);
            }
            Check.due("it is good", x.told(6), 2);
        }
    }

    private static void planKeeps() {
        Check.sentence("(a programme that has a plan keeps whether it is away, its NOW, and the orders that wait)");
        StreamSplitter x = busy(1, 100);
        Wire.send(x, Wire.sections(100, 1, Wire.plan(1, 4, 7, 134, 300)));
        programme("a new plan", x, 0, 1, 100, 4, 7, 1, 1, 1);
        Check.due("NOW", x.now(0), 500);
        Check.due("the order", x.order(0, 0, 0), 4000);
        Check.due("the old streams are gone", x.stream(0, 1), -1);
        Wire.send(x, Wire.sections(100, 2, Wire.plan(1, 5, 7, 1, 1, 2, 2, 3, 3, 4, 4, 5, 5)));
        programme("one that isn't used changes nothing", x, 0, 1, 100, 4, 7, 1, 1, 1);
        Wire.send(x, Wire.sections(100, 3, Wire.plan(1, 5, 8)));
        programme("one without streams", x, 0, 1, 100, 5, 8, 0, 1, 1);
        Check.due("NOW again", x.now(0), 500);
    }

    /** Begins to gather on four PIDs: a plan on 200, orders on 102, pieces on 101 and 103. */
    private static StreamSplitter gathering() {
        StreamSplitter x = listed(1, 100, 2, 200);
        Wire.send(x, Wire.sections(100, 0, Wire.plan(1, 1, 101, 2, 101, 134, 102, 3, 103)));
        Wire.send(x, Wire.packet(200, true, 0, new int[] {0, 2}), Wire.packet(102, true, 0, new int[] {0, 252}));
        x.writePiece(101, -1, 0, 1, false);
        x.writePiece(103, -1, 300, 1, true);
        x.drop(376, 188);
        x.take();
        Check.due("nothing is given up yet", x.told(8), 0);
        return x;
    }

    private static void inForceGivesUp() {
        Check.sentence("When a list or plan comes into force, all that is gathered on other PIDs is given up.");
        StreamSplitter x = gathering();
        Wire.send(x, Wire.sections(100, 1, Wire.plan(1, 2, 101, 2, 101, 134, 102, 3, 103)));
        Check.due("a plan gives up four", x.told(8), 4);
        Check.due("none is done", x.told(9), 0);
        StreamSplitter y = gathering();
        Wire.send(y, Wire.sections(0, 1, Wire.list(2, 1, 100, 2, 200)));
        Check.due("a list gives up four", y.told(8), 4);
        Wire.send(y, Wire.packet(100, true, 1, new int[] {0, 2}), Wire.packet(0, true, 2, new int[] {0, 0}));
        int[] list = Wire.list(3, 1, 100);
        Wire.send(y, Wire.packet(0, false, 3, Wire.part(list, 1, list.length)));
        Check.due("it gives up itself not", y.told(8), 5);
        Wire.send(y, Wire.packet(0, true, 4, Wire.pointed(0, Wire.list(4, 1, 100), new int[] {0})));
        Wire.send(y, Wire.packet(0, false, 5, Wire.part(Wire.list(5), 1, 12)));
        Check.due("nor what begins behind it", y.told(8), 5);
        Check.due("which is used", y.told(10), 5);
    }

    private static void notInForceGivesUpNothing() {
        Check.sentence("When a list or plan comes into force, all that is gathered on other PIDs is given up.");
        StreamSplitter x = gathering();
        Wire.send(x, Wire.sections(100, 1, Wire.plan(1, 1, 7), Wire.plan(3, 2, 7),
                Wire.plan(1, 2, 7, 1, 1, 2, 2, 3, 3, 4, 4, 5, 5)));
        Wire.send(x, Wire.sections(0, 1, Wire.list(1), Wire.section(new int[] {0, 0, 0, 0, 0, 7, 0, 0, 0})));
        Check.due("none of these is used", x.told(8), 0);
        Check.due("all are good", x.told(6), 7);
        Wire.send(x, Wire.packet(102, false, 1, Wire.part(Wire.idle(12), 1, 12)));
        Check.due("what was gathered goes on", x.told(7), 1);
    }

    private static void brokenTablesGiveUpNothing() {
        Check.sentence("When a list or plan comes into force, all that is gathered on other PIDs is given up.");
        StreamSplitter x = gathering();
        int[] list = Wire.part(Wire.list(2, 1, 100), 0, 12);
        int[] plan = Wire.part(Wire.plan(1, 2, 7), 0, 12);
        int[] lists = {};
        int[] plans = {};
        int[][] changes = {{0, 9}, {5, 4}, {6, 1}, {7, 1}};
        for (int[] change : changes) {
            lists = Wire.join(lists, Wire.section(Wire.with(list, change[0], change[1])));
            plans = Wire.join(plans, Wire.section(Wire.with(plan, change[0], change[1])));
        }
        Wire.send(x, Wire.packet(0, true, 1, Wire.pointed(0, lists)));
        Wire.send(x, Wire.packet(100, true, 1, Wire.pointed(0, plans)));
        Check.due("all are good", x.told(6), 10);
        Check.due("none is used", x.told(8), 0);
        Wire.send(x, Wire.packet(100, true, 2, Wire.pointed(0, Wire.with(Wire.section(plan), 8, 1))));
        Check.due("a wrong one", x.told(7), 1);
        Check.due("neither", x.told(8), 0);
        Wire.send(x, Wire.packet(100, true, 3, Wire.pointed(0, Wire.section(plan))));
        Check.due("one that is used", x.told(8), 4);
    }

    private static void ordersGiveUpNothing() {
        Check.sentence("When a list or plan comes into force, all that is gathered on other PIDs is given up.");
        StreamSplitter x = Wire.tuned();
        x.writePiece(101, -1, 1, 1, false);
        x.writeOrder(102, 1, 2 | 4, 0, 0);
        x.writeOrder(102, 2, 32, 5000, 0);
        x.writeOrder(102, 2, 1, 0, 0);
        x.take();
        Wire.send(x, Wire.packet(102, true, 3, Wire.pointed(0, Wire.idle(12))));
        Check.due("all are good", x.told(6), 6);
        Check.due("none gives up", x.told(8), 0);
        Check.due("one was obeyed", x.programme(0, 5), 1);
    }

    private static void pidZero() {
        Check.sentence("WHAT A PID IS FOR: 0: the LIST.");
        StreamSplitter x = listed(1, 0, 2, 200);
        Wire.send(x, Wire.sections(0, 1, Wire.plan(1, 1, 5)));
        programme("no plan comes on it", x, 0, 1, 0, -1);
        Wire.send(x, Wire.sections(200, 0, Wire.plan(2, 1, 5, 2, 0)));
        x.writePiece(0, 9, 0, 0, true);
        x.spoil(3, x.spoil(3, 0) & 0xF0 | 2);
        x.take();
        Check.due("nor pieces", x.told(9), 0);
        Check.due("that move NOW", x.now(1), -1);
        Wire.send(x, Wire.sections(0, 3, Wire.list(2)));
        Check.due("lists do", x.told(10), 2);
    }

    private static void pidOfPlanAndStream() {
        Check.sentence("Otherwise: if it is that of a programme of the list: a PLAN; else");
        StreamSplitter x = listed(1, 100, 2, 200);
        Wire.send(x, Wire.sections(100, 0, Wire.plan(1, 1, 5, 2, 200, 2, 100)));
        Wire.send(x, Wire.sections(200, 0, Wire.plan(2, 1, 5)));
        programme("a plan on a stream's PID", x, 1, 2, 200, 1, 5);
        Wire.send(x, Wire.sections(0, 1, Wire.list(2, 1, 100)));
        x.writePiece(200, 9, 0, 0, true);
        x.spoil(3, x.spoil(3, 0) & 0xF0 | 1);
        x.take();
        Check.due("when that programme is gone, a piece", x.told(9), 1);
        Check.due("with NOW", x.now(0), 9);
    }

    private static void typeOfOrders() {
        Check.sentence("ORDERS if its type is 134, else PIECES.");
        for (int type : new int[] {0, 2, 6, 133, 134, 135, 252, 255}) {
            StreamSplitter x = listed(1, 100);
            Wire.send(x, Wire.sections(100, 0, Wire.plan(1, 1, 5, type, 102)));
            x.writeOrder(102, 1, 2 | 4, 0, 0);
            x.writePiece(102, 9, 0, 0, true);
            x.take();
            Check.due("away with type " + type, x.programme(0, 5), type == 134 ? 1 : 0);
            Check.due("pieces with type " + type, x.told(9), type == 134 ? 0 : 1);
            Check.due("NOW with type " + type, x.now(0), type == 134 ? -1 : 9);
        }
    }

    private static void firstStreamCounts() {
        Check.sentence("programmes and streams in their order, if it is that of a stream of a programme with a plan");
        StreamSplitter x = listed(1, 100, 2, 200);
        Wire.send(x, Wire.sections(200, 0, Wire.plan(2, 1, 5, 134, 104, 2, 104, 2, 105)));
        x.writeOrder(104, 1, 2 | 4, 0, 0);
        x.writePiece(104, 9, 0, 0, true);
        x.writePiece(105, 8, 0, 0, true);
        x.take();
        programme("of the first stream's type, in the one with a plan", x, 1, 2, 200, 1, 5, 3, 1, 0);
        Check.due("not of the second's", x.now(1), 8);
        Wire.send(x, Wire.sections(100, 0, Wire.plan(1, 1, 5, 2, 104, 134, 104, 134, 105)));
        x.writePiece(104, 9, 0, 0, true);
        x.writeOrder(105, 1, 2 | 4, 0, 0);
        x.take();
        Check.due("of the first programme's type", x.now(0), 9);
        Check.due("not of the second's", x.now(1), 8);
        Check.due("orders, too", x.programme(0, 5), 1);
    }

    private static void programmeRefused() {
        Check.sentence("IllegalArgumentException: another what. IndexOutOfBoundsException: there is no programme k.");
        StreamSplitter none = new StreamSplitter();
        StreamSplitter x = listed(1, 100, 2, 200, 3, 300, 4, 400);
        for (int what : new int[] {LOWEST, -1, 7, 8, HIGHEST}) {
            Check.illegal("what " + what, () -> x.programme(0, what));
            Check.illegal("named first " + what, () -> x.programme(4, what));
            Check.illegal("named first, below " + what, () -> x.programme(-1, what));
            Check.illegal("with none " + what, () -> none.programme(0, what));
        }
        for (int k : new int[] {LOWEST, -1, 4, 5, HIGHEST}) {
            Check.outside("programme " + k, () -> x.programme(k, 0));
            Check.outside("programme " + k, () -> x.programme(k, 6));
        }
        Check.outside("none", () -> none.programme(0, 0));
        Check.due("the first", x.programme(0, 0), 1);
        Check.due("the last", x.programme(3, 0), 4);
        Check.due("the last what", x.programme(3, 6), 0);
    }

    private static void programmeWithoutPlan() {
        Check.sentence("how many streams it has (4; 0 without a plan), 1 if it is away, else 0 (5), how many orders"
                + " wait (6); NONE for 2 and 3 without a plan.");
        StreamSplitter x = listed(1, 100);
        programme("without", x, 0, 1, 100, -1, -1, 0, 0, 0);
        Wire.send(x, Wire.sections(100, 0, Wire.plan(1, 0, 0)));
        programme("with", x, 0, 1, 100, 0, 0, 0, 0, 0);
    }

    private static void streamRefused() {
        Check.sentence("NONE when there is none such. IndexOutOfBoundsException: there is no programme k.");
        StreamSplitter none = new StreamSplitter();
        StreamSplitter x = listed(1, 100, 2, 200);
        Wire.send(x, Wire.sections(100, 0, Wire.plan(1, 1, 0, 0, 0, 255, 8191)));
        for (int k : new int[] {LOWEST, -1, 2, HIGHEST}) {
            Check.outside("programme " + k, () -> x.stream(k, 0));
            Check.outside("before NONE " + k, () -> x.stream(k, -1));
        }
        Check.outside("none", () -> none.stream(0, 0));
        for (int j : new int[] {LOWEST, -1, 2, 4, HIGHEST}) {
            Check.due("stream " + j, x.stream(0, j), -1);
            Check.due("without a plan " + j, x.stream(1, j), -1);
        }
        Check.due("without a plan", x.stream(1, 0), -1);
        Check.due("the smallest", x.stream(0, 0), 0);
        Check.due("the largest", x.stream(0, 1), 255 * 65536 + 8191);
    }
}
