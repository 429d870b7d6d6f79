/** The boundary cases of taking, of packets, their counts and their clocks, a sentence at a time. */
public final class PacketEdgesTest {
    private static final int[] FULL = Wire.fill(184, 9);

    public static void main(String[] args) {
        lost();
        lessStays();
        allElseIsGone();
        falseBeginning();
        fullTape();
        badByE();
        badByA();
        badWithoutPayload();
        badWithPayload();
        badDoesNothing();
        fieldOfNoBytes();
        clockNeedsSeven();
        clockNeedsP();
        clockNumbers();
        clockOfAllButBad();
        clockRefused();
        pid8191();
        withoutPayload();
        countOfEachPair();
        noCountAtFirst();
        twinOnce();
        twinDoesNothing();
        leapOfEachPair();
        gapGivesUp();
        leapGivesUpNothing();
        scrambledGivesUp();
        scrambledMovesTheCount();
        bitThatMeansNothing();
        beginningBit();
        toldRefused();
        Check.end();
    }

    private static void counts(String what, StreamSplitter x, int packets, int bad, int twins, int gaps) {
        Check.due(what + ": packets", x.told(1), packets);
        Check.due(what + ": bad", x.told(2), bad);
        Check.due(what + ": twins", x.told(3), twins);
        Check.due(what + ": gaps", x.told(4), gaps);
    }

    /** A packet with a field of all its bytes; its length byte and its A are the caller's. */
    private static int[] fielded(int pid, int parts, int length, int flags, long b, int x) {
        int[] rest = Wire.row().bytes(length, flags).n(33, b).n(6, 63).n(9, x).times(176, 0).end();
        return Wire.join(Wire.row().bytes(71).n(3, 0).n(13, pid).n(2, 0).n(2, parts).n(4, 0).end(), rest);
    }

    private static void lost() {
        Check.sentence("a byte that is not 71 is LOST");
        StreamSplitter x = new StreamSplitter();
        Wire.feed(x, new int[] {70, 72, 0, 255, 199, 7, 128});
        Check.due("no packet", x.take(), 0);
        Check.due("seven are lost", x.told(5), 7);
        Check.due("and gone", x.told(0), 0);
        x.feed(1, 71);
        x.take();
        Check.due("71 is not", x.told(5), 7);
        Check.due("and stays", x.told(0), 1);
    }

    private static void lessStays() {
        Check.sentence("71 with 187 bytes behind it is a PACKET; 71 with less stays, with all behind it");
        StreamSplitter x = new StreamSplitter();
        Wire.feed(x, Wire.part(Wire.packet(9, false, 0, FULL), 0, 187));
        Check.due("186 behind it", x.take(), 0);
        Check.due("all stay", x.told(0), 187);
        counts("none came", x, 0, 0, 0, 0);
        x.feed(1, 9);
        Check.due("187 behind it", x.take(), 1);
        Check.due("none stays", x.told(0), 0);
        counts("one came", x, 1, 0, 0, 0);
        Wire.feed(x, Wire.packet(9, false, 1, FULL), new int[] {71});
        Check.due("188 behind it", x.take(), 1);
        Check.due("the next stays", x.tape(0), 71);
        Check.due("alone", x.told(0), 1);
        Check.due("nothing is lost", x.told(5), 0);
    }

    private static void allElseIsGone() {
        Check.sentence("71 with less stays, with all behind it; all else is gone from the tape.");
        StreamSplitter x = new StreamSplitter();
        Wire.feed(x, new int[] {0, 1}, Wire.packet(9, false, 0, FULL), new int[] {2, 71, 3, 71, 4});
        Check.due("one packet", x.take(), 1);
        Check.due("lost are those before", x.told(5), 3);
        Wire.tapeIs("what stays", x, new int[] {71, 3, 71, 4});
        Check.due("again none", x.take(), 0);
        Check.due("nothing more is lost", x.told(5), 3);
        Wire.tapeIs("it still stays", x, new int[] {71, 3, 71, 4});
    }

    private static void falseBeginning() {
        Check.sentence("71 with 187 bytes behind it is a PACKET");
        StreamSplitter x = new StreamSplitter();
        Wire.feed(x, Wire.fill(188, 71), Wire.fill(188, 71), Wire.fill(187, 71));
        Check.due("any 71", x.take(), 2);
        counts("both are bad", x, 2, 2, 0, 0);
        Check.due("what is less stays", x.told(0), 187);
        Check.due("none is lost", x.told(5), 0);
    }

    private static void fullTape() {
        Check.sentence("Takes the tape. Answers how many packets there were in it.");
        StreamSplitter x = new StreamSplitter();
        Check.due("an empty one", x.take(), 0);
        Wire.tapeOf(x, 9400);
        Check.due("a full one", x.take(), 50);
        Check.due("is empty then", x.told(0), 0);
        counts("all in their row", x, 50, 0, 0, 0);
        for (int k = 0; k < 50; k++) {
            x.writePiece(8, -1, 0, 0, true);
        }
        x.drop(0, 1);
        Check.due("one without its first byte", x.take(), 49);
        Check.due("its others are lost", x.told(5), 187);
        counts("which makes a gap", x, 99, 0, 0, 1);
    }

    private static void badByE() {
        Check.sentence("E is 1");
        StreamSplitter x = new StreamSplitter();
        int[] packet = Wire.packet(9, false, 0, FULL);
        Wire.send(x, Wire.with(packet, 1, packet[1] | 0x80));
        counts("E 1", x, 1, 1, 0, 0);
        Wire.send(x, Wire.with(packet, 1, packet[1] | 0x60));
        counts("E 0", x, 2, 1, 0, 0);
    }

    private static void badByA() {
        Check.sentence("A is 0");
        StreamSplitter x = new StreamSplitter();
        Wire.send(x, fielded(9, 0, 183, 0, 0, 0));
        counts("A 0", x, 1, 1, 0, 0);
        Wire.send(x, fielded(9, 1, 183, 0, 0, 0));
        counts("A 1", x, 2, 1, 0, 0);
        Wire.send(x, fielded(10, 1, 255, 0, 0, 0));
        counts("A 1 has no L", x, 3, 1, 0, 0);
    }

    private static void badWithoutPayload() {
        Check.sentence("A is 2 and L not 183");
        StreamSplitter x = new StreamSplitter();
        int bad = 0;
        for (int length : new int[] {0, 1, 7, 182, 183, 184, 255}) {
            Wire.send(x, fielded(300 + length, 2, length, 16, 5, 6));
            bad += length == 183 ? 0 : 1;
            Check.due("bad with L " + length, x.told(2), bad);
            Check.due("clock with L " + length, x.clock(300 + length), length == 183 ? 1506 : -1);
        }
    }

    private static void badWithPayload() {
        Check.sentence("A is 3 and L above 182");
        StreamSplitter x = new StreamSplitter();
        int bad = 0;
        for (int length : new int[] {0, 1, 6, 7, 181, 182, 183, 184, 255}) {
            Wire.send(x, fielded(300 + length, 3, length, 16, 5, 6));
            bad += length > 182 ? 1 : 0;
            Check.due("bad with L " + length, x.told(2), bad);
            boolean set = length >= 7 && length <= 182;
            Check.due("clock with L " + length, x.clock(300 + length), set ? 1506 : -1);
        }
    }

    private static void badDoesNothing() {
        Check.sentence("the packet is BAD, and nothing else is done. (The clock is set neither");
        StreamSplitter x = Wire.tuned();
        x.writePiece(101, -1, 400, 1, true);
        x.drop(188, 376);
        x.take();
        int[] wrong = Wire.packet(101, true, 7, FULL);
        Wire.send(x, Wire.with(wrong, 1, wrong[1] | 0x80));
        Wire.send(x, Wire.with(wrong, 3, 0xC7));
        Wire.send(x, fielded(101, 2, 182, 0x90, 5, 6), fielded(101, 3, 183, 0x90, 5, 6));
        Check.due("all are bad", x.told(2), 4);
        Check.due("no gap", x.told(4), 0);
        Check.due("no twin", x.told(3), 0);
        Check.due("nothing is given up", x.told(8), 0);
        Check.due("no clock", x.clock(101), -1);
        Wire.send(x, Wire.packet(101, false, 1, FULL), Wire.packet(101, false, 2, FULL));
        Check.due("the piece goes on", x.told(9), 1);
        Check.due("without a gap", x.told(4), 0);
    }

    private static void fieldOfNoBytes() {
        Check.sentence("if L is not 0, the first one has the bits D (its highest), two, P (the fourth), four");
        StreamSplitter x = new StreamSplitter();
        Wire.send(x, Wire.packet(9, false, 0, FULL), fielded(9, 3, 0, 0x90, 5, 6));
        counts("L 0: the byte behind is payload, and this a twin", x, 2, 0, 1, 0);
        Check.due("without a clock", x.clock(9), -1);
        Wire.send(x, fielded(9, 3, 1, 0x90, 5, 6));
        counts("L 1: it has D, and this is neither", x, 3, 0, 1, 0);
        Wire.send(x, fielded(9, 3, 1, 0x7F, 5, 6));
        counts("the others are not D", x, 4, 0, 2, 0);
        Wire.send(x, Wire.with(fielded(9, 1, 1, 0x90, 5, 6), 3, 0x15));
        counts("A 1: no field", x, 5, 0, 2, 1);
    }

    private static void clockNeedsSeven() {
        Check.sentence("if P is 1 and L is 7 or more");
        StreamSplitter x = new StreamSplitter();
        Wire.send(x, fielded(9, 3, 6, 16, 5, 6));
        Check.due("L 6", x.clock(9), -1);
        Wire.send(x, fielded(9, 3, 7, 16, 5, 6));
        Check.due("L 7", x.clock(9), 1506);
        Wire.send(x, fielded(9, 3, 6, 16, 7, 8));
        Check.due("L 6 leaves it", x.clock(9), 1506);
        Wire.send(x, fielded(9, 3, 8, 16, 7, 8));
        Check.due("L 8", x.clock(9), 2108);
    }

    private static void clockNeedsP() {
        Check.sentence("if P is 1 and L is 7 or more");
        StreamSplitter x = new StreamSplitter();
        Wire.send(x, fielded(9, 2, 183, 0xEF, 5, 6));
        Check.due("all but P", x.clock(9), -1);
        Wire.send(x, fielded(9, 2, 183, 0x10, 5, 6));
        Check.due("P alone", x.clock(9), 1506);
        Wire.send(x, fielded(9, 2, 183, 0xFF, 7, 8));
        Check.due("all", x.clock(9), 2108);
        Wire.send(x, fielded(9, 1, 183, 0x10, 5, 6));
        Check.due("A 1 has none", x.clock(9), 2108);
    }

    private static void clockNumbers() {
        Check.sentence("33 bits b, 6 bits, 9 bits x: the CLOCK of the PID becomes 300 b + x");
        StreamSplitter x = new StreamSplitter();
        long[] numbers = {0, 1, 1L << 31, (1L << 32) - 1, 1L << 32, (1L << 33) - 1};
        int[] more = {0, 511, 299, 300, 256, 255};
        for (int k = 0; k < numbers.length; k++) {
            Wire.send(x, fielded(9, 2, 183, 16, numbers[k], more[k]));
            Check.due("clock of " + numbers[k], x.clock(9), 300 * numbers[k] + more[k]);
        }
        Check.due("of one PID alone", x.clock(265), -1);
        Wire.send(x, Wire.with(fielded(9, 2, 183, 16, 1, 1), 10, 0x80));
        Check.due("the six bits are left out", x.clock(9), 301);
    }

    private static void clockOfAllButBad() {
        Check.sentence("(The clock is set neither; in all cases that follow it is.)");
        StreamSplitter x = new StreamSplitter();
        Wire.send(x, fielded(8191, 3, 7, 16, 1, 0));
        Check.due("PID 8191", x.clock(8191), 300);
        Wire.send(x, fielded(0, 2, 183, 16, 2, 0));
        Check.due("A 2", x.clock(0), 600);
        Wire.send(x, fielded(9, 3, 7, 16, 3, 0));
        Check.due("the first of a PID", x.clock(9), 900);
        Wire.send(x, fielded(9, 3, 7, 16, 4, 0));
        Check.due("a twin", x.clock(9), 1200);
        Check.due("it was one", x.told(3), 1);
        Wire.send(x, Wire.with(fielded(9, 3, 7, 16, 5, 0), 3, 0x35));
        Check.due("a gap", x.clock(9), 1500);
        Check.due("it was one, too", x.told(4), 1);
        Wire.send(x, Wire.with(fielded(9, 3, 7, 16, 6, 0), 3, 0xF6));
        Check.due("X", x.clock(9), 1800);
        Check.due("none was bad", x.told(2), 0);
    }

    private static void clockRefused() {
        Check.sentence("The clock of a PID; NONE when it has none. IllegalArgumentException: pid is not 0 .. 8191.");
        StreamSplitter x = new StreamSplitter();
        for (int pid : new int[] {Integer.MIN_VALUE, -1, 8192, Integer.MAX_VALUE}) {
            Check.illegal("clock " + pid, () -> x.clock(pid));
        }
        Wire.send(x, fielded(0, 2, 183, 16, 1, 1), fielded(8191, 2, 183, 16, 1, 2), fielded(9, 2, 183, 0, 1, 3));
        Check.due("clock 0", x.clock(0), 301);
        Check.due("clock 8191", x.clock(8191), 302);
        Check.due("packets alone set none", x.clock(9), -1);
        Check.due("nothing came", x.clock(1), -1);
    }

    private static void pid8191() {
        Check.sentence("The PID is 8191, or A is 2: nothing else.");
        StreamSplitter x = new StreamSplitter();
        Wire.send(x, Wire.sections(0, 0, Wire.list(1, 1, 8191, 2, 8190)));
        Wire.send(x, Wire.sections(8191, 3, Wire.plan(1, 1, 5)), Wire.sections(8191, 3, Wire.plan(1, 2, 5)));
        Wire.send(x, Wire.sections(8191, 9, Wire.plan(1, 3, 5)));
        counts("of 8191 neither twins nor gaps", x, 4, 0, 0, 0);
        Check.due("nor a section", x.told(6), 1);
        Check.due("nor a plan", x.programme(0, 2), -1);
        Wire.send(x, Wire.sections(8190, 3, Wire.plan(2, 1, 5, 2, 8191)));
        Check.due("8190 has a plan", x.programme(1, 2), 1);
        Wire.send(x, Wire.sections(8190, 3, Wire.plan(2, 2, 5)), Wire.sections(8190, 9, Wire.plan(2, 3, 5, 2, 8191)));
        counts("and a twin and a gap", x, 7, 0, 1, 1);
        Check.due("a plan behind a gap", x.programme(1, 2), 3);
        x.writePiece(8191, 5, 0, 0, true);
        x.take();
        Check.due("8191 carries no pieces", x.told(9), 0);
        Check.due("and moves no NOW", x.now(1), -1);
    }

    private static void withoutPayload() {
        Check.sentence("The PID is 8191, or A is 2: nothing else.");
        StreamSplitter x = Wire.tuned();
        x.writePiece(101, -1, 400, 1, true);
        x.drop(188, 376);
        x.take();
        for (int last : new int[] {0x20, 0x21, 0x29, 0xE5}) {
            Wire.send(x, Wire.with(fielded(101, 2, 183, 0, 0, 0), 3, last));
        }
        counts("neither twins nor gaps", x, 7, 0, 0, 0);
        Check.due("nothing is given up, with X neither", x.told(8), 0);
        Wire.send(x, Wire.packet(101, false, 1, FULL), Wire.packet(101, false, 2, FULL));
        counts("the count is that of before", x, 9, 0, 0, 0);
        Check.due("the piece goes on", x.told(9), 1);
    }

    /** An empty piece of a PID with a count; three calls, where hand-made packets take two dozen. */
    private static void sendCount(StreamSplitter x, int pid, int count) {
        x.writePiece(pid, -1, 0, 0, true);
        x.spoil(3, 0x30 | count);
        x.take();
    }

    private static void countOfEachPair() {
        Check.sentence("If the PID has a count, C is not one more (modulo 16), and D is 0, that is a GAP");
        for (int first = 0; first < 16; first++) {
            StreamSplitter x = new StreamSplitter();
            int twins = 0;
            int gaps = 0;
            for (int next = 0; next < 16; next++) {
                sendCount(x, 500 + next, first);
                sendCount(x, 500 + next, next);
                twins += next == first ? 1 : 0;
                gaps += next == first || next == (first + 1) % 16 ? 0 : 1;
                counts(first + " then " + next, x, 2 * next + 2, 0, twins, gaps);
            }
        }
    }

    private static void noCountAtFirst() {
        Check.sentence("C is the COUNT of the PID (it has none at first)");
        StreamSplitter x = new StreamSplitter();
        for (int count = 0; count < 16; count++) {
            sendCount(x, 600 + count, count);
            counts("first with " + count, x, count + 1, 0, 0, 0);
        }
    }

    private static void twinOnce() {
        Check.sentence("and no TWIN came since the count became this: it is a twin");
        for (int count : new int[] {0, 7, 15}) {
            StreamSplitter x = new StreamSplitter();
            int next = (count + 1) % 16;
            sendCount(x, 9, count);
            sendCount(x, 9, count);
            counts("the second", x, 2, 0, 1, 0);
            sendCount(x, 9, count);
            counts("the third is a gap", x, 3, 0, 1, 1);
            sendCount(x, 9, next);
            counts("the next one", x, 4, 0, 1, 1);
            sendCount(x, 9, next);
            counts("may have a twin again", x, 5, 0, 2, 1);
            sendCount(x, 10, next);
            sendCount(x, 10, next);
            counts("as may another PID", x, 7, 0, 3, 1);
            sendCount(x, 9, next);
            counts("but no second one", x, 8, 0, 3, 2);
        }
    }

    private static void twinDoesNothing() {
        Check.sentence("it is a twin; nothing else.");
        StreamSplitter x = Wire.tuned();
        x.writePiece(101, -1, 400, 1, true);
        x.drop(188, 376);
        x.take();
        Wire.send(x, Wire.with(Wire.packet(101, true, 0, FULL), 3, 0xD0));
        counts("whatever it holds", x, 4, 0, 1, 0);
        Check.due("with X nothing is given up", x.told(8), 0);
        Wire.send(x, Wire.packet(101, false, 1, FULL), Wire.packet(101, false, 1, FULL));
        Check.due("its payload isn't used", x.told(9), 0);
        Wire.send(x, Wire.packet(101, false, 2, FULL));
        Check.due("that of the next one is", x.told(9), 1);
    }

    private static void leapOfEachPair() {
        Check.sentence("C is not one more (modulo 16), and D is 0, that is a GAP");
        for (int first = 0; first < 16; first++) {
            StreamSplitter x = new StreamSplitter();
            for (int next = 0; next < 16; next++) {
                sendCount(x, 500 + next, first);
                x.writePiece(500 + next, -1, 0, 0, true);
                x.spoil(3, 0x30 | next);
                x.spoil(5, 0x80);
                x.take();
                sendCount(x, 500 + next, (next + 1) % 16);
                counts("D 1: " + first + " then " + next, x, 3 * next + 3, 0, 0, 0);
            }
        }
    }

    private static void gapGivesUp() {
        Check.sentence("that is a GAP: what is gathered on the PID is given up. C becomes the count.");
        StreamSplitter x = Wire.tuned();
        x.writePiece(103, -1, 400, 1, true);
        x.drop(188, 376);
        x.writePiece(101, -1, 400, 1, true);
        x.drop(376, 376);
        x.take();
        Wire.send(x, Wire.packet(101, false, 2, FULL));
        Check.due("a gap", x.told(4), 1);
        Check.due("one is given up, not that of another PID", x.told(8), 1);
        Wire.send(x, Wire.packet(101, false, 3, FULL), Wire.packet(101, false, 4, FULL));
        Check.due("the count goes on from it", x.told(4), 1);
        Check.due("nothing goes on with the piece", x.told(9), 0);
        Wire.send(x, Wire.packet(101, false, 9, FULL));
        Check.due("another gap", x.told(4), 2);
        Check.due("with nothing to give up", x.told(8), 1);
        Wire.send(x, Wire.packet(103, false, 1, FULL), Wire.packet(103, false, 2, FULL));
        Check.due("the other one is done", x.told(9), 1);
        Wire.send(x, Wire.packet(101, true, 15, Wire.pieceHead(7, 4, 0, 0)));
        Wire.send(x, Wire.packet(101, true, 14, Wire.join(Wire.pieceHead(8, 4, 0, 0), new int[] {1})));
        Check.due("a gap whose payload is used", x.piece(0, 1), 8);
        Check.due("two gaps more", x.told(4), 4);
        Check.due("one more is given up", x.told(8), 2);
    }

    private static void leapGivesUpNothing() {
        Check.sentence("C is not one more (modulo 16), and D is 0, that is a GAP: what is gathered on the PID is"
                + " given up.");
        for (int next : new int[] {0, 1, 9, 15}) {
            StreamSplitter x = Wire.tuned();
            x.writePiece(101, -1, 180, 1, true);
            x.drop(188, 188);
            x.take();
            Wire.send(x, Wire.packetWith(101, false, next, new int[] {0x80}, Wire.fill(182, 1)));
            Check.due("no gap", x.told(4), 0);
            Check.due("nothing is given up", x.told(8), 0);
            Check.due("it goes on", x.told(9), 1);
        }
    }

    private static void scrambledGivesUp() {
        Check.sentence("If X is not 0, what is gathered on the PID is given up, and nothing else.");
        for (int scrambled = 0; scrambled < 4; scrambled++) {
            StreamSplitter x = Wire.tuned();
            x.writePiece(101, -1, 300, 1, true);
            x.writePiece(103, -1, 300, 1, true);
            x.spoil(188 + 3, x.spoil(188 + 3, 0) | scrambled << 6);
            x.take();
            Check.due("given up with X " + scrambled, x.told(8), scrambled == 0 ? 0 : 1);
            Check.due("done with X " + scrambled, x.told(9), scrambled == 0 ? 2 : 1);
            x.writePiece(101, -1, 3, 1, true);
            x.spoil(3, x.spoil(3, 0) | scrambled << 6);
            x.take();
            Check.due("there was nothing", x.told(8), scrambled == 0 ? 0 : 1);
            Check.due("and nothing is used", x.told(9), scrambled == 0 ? 3 : 1);
            counts("X " + scrambled, x, 7, 0, 0, 0);
        }
    }

    private static void scrambledMovesTheCount() {
        Check.sentence("C becomes the count. If X is not 0");
        StreamSplitter x = new StreamSplitter();
        Wire.send(x, Wire.with(Wire.packet(9, false, 0, FULL), 3, 0x55));
        Wire.send(x, Wire.with(Wire.packet(9, false, 0, FULL), 3, 0x95));
        counts("a twin", x, 2, 0, 1, 0);
        Wire.send(x, Wire.with(Wire.packet(9, false, 0, FULL), 3, 0xD6));
        Wire.send(x, Wire.packet(9, false, 7, FULL));
        counts("one behind the other", x, 4, 0, 1, 0);
        Wire.send(x, Wire.with(Wire.packet(9, false, 0, FULL), 3, 0x59));
        counts("a gap", x, 5, 0, 1, 1);
    }

    private static void bitThatMeansNothing() {
        Check.sentence("a bit E, a bit S, a bit, 13 bits PID");
        StreamSplitter x = new StreamSplitter();
        int[] packet = Wire.sections(0, 0, Wire.list(1, 1, 100));
        Wire.send(x, Wire.with(packet, 1, packet[1] | 0x20));
        Check.due("the third bit means nothing", x.told(10), 1);
        for (int bit = 0; bit < 13; bit++) {
            Wire.send(x, fielded(1 << bit, 2, 183, 16, bit, 0));
        }
        for (int bit = 0; bit < 13; bit++) {
            Check.due("PID bit " + bit, x.clock(1 << bit), 300 * bit);
        }
    }

    private static void beginningBit() {
        Check.sentence("a bit E, a bit S, a bit, 13 bits PID");
        int[] pids = {1, 256, 512, 1024, 2048, 4096, 8190};
        for (int pid : pids) {
            StreamSplitter x = new StreamSplitter();
            x.plan(1, 100);
            x.addStream(0, 2, pid);
            x.writeTables(0);
            x.writePiece(pid, -1, 400, 1, true);
            x.take();
            Check.due("no other bit is S, PID " + pid, x.told(9), 1);
            Check.due("nothing is given up, PID " + pid, x.told(8), 0);
        }
    }

    private static void toldRefused() {
        Check.sentence("IllegalArgumentException: another what.");
        StreamSplitter x = new StreamSplitter();
        for (int what : new int[] {Integer.MIN_VALUE, -1, 12, 13, Integer.MAX_VALUE}) {
            Check.illegal("told " + what, () -> x.told(what));
        }
        Check.due("told 0", x.told(0), 0);
        Check.due("told 11", x.told(11), 0);
    }
}
