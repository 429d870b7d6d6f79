/** Promise 7, packets and their counts; promise 14, clocks; what of promise 8 tells of them. */
public final class PacketTest {
    private static final int[] NOTHING = Wire.fill(184, 9);

    public static void main(String[] args) {
        taking();
        bad();
        twins();
        gaps();
        leaps();
        scrambled();
        clocks();
        told();
        Check.end();
    }

    private static void counts(String what, StreamSplitter x, int packets, int bad, int twins, int gaps) {
        Check.due(what + ": packets", x.told(1), packets);
        Check.due(what + ": bad", x.told(2), bad);
        Check.due(what + ": twins", x.told(3), twins);
        Check.due(what + ": gaps", x.told(4), gaps);
    }

    private static void taking() {
        StreamSplitter x = new StreamSplitter();
        int[] packet = Wire.packet(9, false, 0, NOTHING);
        Wire.feed(x, new int[] {1, 2, 3}, packet, new int[] {70}, packet, new int[] {71, 5, 71});
        Check.due("take two", x.take(), 2);
        Check.due("lost", x.told(5), 4);
        Wire.tapeIs("what stays", x, new int[] {71, 5, 71});
        Check.due("take none", x.take(), 0);
        Check.due("what stays is not lost", x.told(5), 4);
        Wire.feed(x, Wire.fill(184, 0));
        Check.due("187 bytes are no packet", x.take(), 0);
        Check.due("they stay", x.told(0), 187);
        x.feed(1, 0);
        Check.due("188 are one", x.take(), 1);
        Check.due("none stays", x.told(0), 0);
        counts("taking", x, 3, 1, 1, 0);
        Wire.feed(x, new int[] {0, 0, 0});
        x.take();
        Check.due("all is lost", x.told(5), 7);
        Check.due("and gone", x.told(0), 0);
    }

    private static void bad() {
        StreamSplitter x = new StreamSplitter();
        int[] none = {};
        Wire.feed(x, Wire.packet(9, false, 0, NOTHING));
        x.spoil(1, 128);
        x.take();
        counts("E", x, 1, 1, 0, 0);
        Wire.feed(x, Wire.packet(9, false, 0, NOTHING));
        x.spoil(3, 0);
        x.take();
        counts("A is 0", x, 2, 2, 0, 0);
        Wire.send(x, Wire.packetWith(9, false, 0, Wire.fill(183, 0), none));
        counts("A is 2", x, 3, 2, 0, 0);
        Wire.feed(x, Wire.packetWith(9, false, 0, Wire.fill(183, 0), none));
        x.spoil(4, 182);
        x.take();
        counts("A is 2 and L 182", x, 4, 3, 0, 0);
        Wire.send(x, Wire.packetWith(9, false, 5, Wire.fill(182, 0), new int[] {1}));
        counts("A is 3 and L 182", x, 5, 3, 0, 0);
        Wire.feed(x, Wire.packetWith(9, false, 9, Wire.fill(182, 0), new int[] {1}));
        x.spoil(4, 183);
        x.take();
        counts("A is 3 and L 183", x, 6, 4, 0, 0);
        Wire.send(x, Wire.packetWith(9, false, 9, Wire.fill(183, 0), none));
        Wire.send(x, Wire.packet(9, false, 6, NOTHING));
        counts("bad ones and those without payload don't count", x, 8, 4, 0, 0);
    }

    private static void twins() {
        StreamSplitter x = new StreamSplitter();
        x.writePiece(9, -1, 100, 1, true);
        x.take();
        int[] packet = Wire.packet(9, false, 1, NOTHING);
        Wire.send(x, packet, packet);
        counts("a twin", x, 3, 0, 1, 0);
        Wire.send(x, packet);
        counts("a second one is a gap", x, 4, 0, 1, 1);
        Wire.send(x, packet);
        counts("after which there may be a twin", x, 5, 0, 2, 1);
        Wire.send(x, Wire.packet(9, false, 2, NOTHING));
        counts("and it goes on", x, 6, 0, 2, 1);
        Wire.send(x, Wire.packet(8191, false, 2, NOTHING), Wire.packet(8191, false, 2, NOTHING));
        Wire.send(x, Wire.packet(8191, false, 9, NOTHING));
        counts("PID 8191 has no count", x, 9, 0, 2, 1);
    }

    private static void gaps() {
        StreamSplitter x = new StreamSplitter();
        Wire.send(x, Wire.packet(9, false, 14, NOTHING), Wire.packet(9, false, 15, NOTHING));
        Wire.send(x, Wire.packet(9, false, 0, NOTHING), Wire.packet(10, false, 7, NOTHING));
        counts("round the end, and another PID", x, 4, 0, 0, 0);
        Wire.send(x, Wire.packet(9, false, 2, NOTHING));
        counts("one left out", x, 5, 0, 0, 1);
        Wire.send(x, Wire.packet(9, false, 1, NOTHING));
        counts("one back", x, 6, 0, 0, 2);
        Wire.send(x, Wire.packet(10, false, 8, NOTHING));
        counts("the other is whole", x, 7, 0, 0, 2);
    }

    private static void leaps() {
        StreamSplitter x = new StreamSplitter();
        int[] leap = {128};
        int[] rest = Wire.fill(182, 9);
        Wire.send(x, Wire.packet(9, false, 1, NOTHING), Wire.packetWith(9, false, 5, leap, rest));
        counts("a leap that is told is no gap", x, 2, 0, 0, 0);
        Wire.send(x, Wire.packetWith(9, false, 5, leap, rest));
        counts("nor a twin", x, 3, 0, 0, 0);
        Wire.send(x, Wire.packet(9, false, 5, NOTHING));
        counts("but this is one", x, 4, 0, 1, 0);
        Wire.send(x, Wire.packetWith(9, false, 5, leap, rest), Wire.packet(9, false, 5, NOTHING));
        counts("and again since the count became this", x, 6, 0, 2, 0);
        Wire.send(x, Wire.packet(9, false, 6, NOTHING), Wire.packetWith(9, false, 9, new int[] {127}, rest));
        counts("the other bits tell no leap", x, 8, 0, 2, 1);
        Wire.send(x, Wire.packet(9, false, 12, Wire.fill(184, 128)));
        counts("nor does a payload", x, 9, 0, 2, 2);
        Wire.send(x, Wire.packet(9, false, 15, Wire.fill(183, 128)));
        counts("nor one behind a field of length 0", x, 10, 0, 2, 3);
    }

    private static void scrambled() {
        StreamSplitter x = new StreamSplitter();
        x.plan(1, 100);
        x.addStream(0, 2, 101);
        x.writeTables(1);
        x.writePiece(101, -1, 300, 1, true);
        x.take();
        Check.due("whole", x.told(9), 1);
        x.writePiece(101, -1, 600, 1, true);
        x.spoil(188 + 3, x.spoil(188 + 3, 0) | 64);
        x.take();
        Check.due("X gives up", x.told(8), 1);
        Check.due("it isn't done", x.told(9), 1);
        counts("X is no gap", x, 8, 0, 0, 0);
        x.writePiece(101, -1, 20, 1, true);
        x.spoil(3, x.spoil(3, 0) | 128);
        x.take();
        Check.due("nothing was there", x.told(8), 1);
        Check.due("and nothing is used", x.told(9), 1);
        x.writePiece(101, -1, 20, 1, true);
        x.take();
        Check.due("the count went on", x.told(4), 0);
        Check.due("all is well again", x.told(9), 2);
    }

    private static void clocks() {
        StreamSplitter x = new StreamSplitter();
        int[] none = {};
        int[] clock = Wire.row().bytes(16).n(33, 8589934591L).n(6, 0).n(9, 511).end();
        int[] zero = Wire.row().bytes(255).n(33, 0).n(6, 63).n(9, 0).end();
        int[] some = Wire.row().bytes(16).n(33, 1000).n(6, 63).n(9, 7).end();
        Wire.send(x, Wire.packetWith(9, false, 0, clock, Wire.fill(176, 0)));
        Check.due("the largest clock", x.clock(9), 300L * 8589934591L + 511);
        Check.due("of no other PID", x.clock(10), -1);
        Wire.send(x, Wire.packetWith(9, false, 0, zero, Wire.fill(176, 0)));
        Check.due("the smallest", x.clock(9), 0);
        Wire.send(x, Wire.packetWith(9, false, 0, some, Wire.fill(176, 0)));
        Check.due("it was a twin", x.told(3), 1);
        Check.due("of which it is taken too", x.clock(9), 300007);
        Wire.send(x, Wire.packetWith(8191, false, 0, some, Wire.fill(176, 0)));
        Check.due("of 8191, too", x.clock(8191), 300007);
        Wire.send(x, Wire.packetWith(0, false, 0, Wire.join(some, Wire.fill(176, 0)), none));
        Check.due("without payload", x.clock(0), 300007);
        Wire.feed(x, Wire.packetWith(11, false, 0, some, Wire.fill(176, 0)));
        x.spoil(1, 128);
        x.take();
        Check.due("a bad one sets none", x.clock(11), -1);
        int[] short6 = {16, 0, 0, 0, 1, 0};
        Wire.send(x, Wire.packetWith(12, false, 0, short6, Wire.fill(177, 0)));
        Check.due("L is 6", x.clock(12), -1);
        int[] unset = some.clone();
        unset[0] = 239;
        Wire.send(x, Wire.packetWith(12, false, 1, unset, Wire.fill(176, 0)));
        Check.due("P is 0", x.clock(12), -1);
        Wire.send(x, Wire.packet(12, false, 2, Wire.fill(184, 16)));
        Wire.send(x, Wire.packet(12, false, 3, Wire.fill(183, 16)));
        Check.due("a payload sets none", x.clock(12), -1);
        Check.illegal("clock -1", () -> x.clock(-1));
        Check.illegal("clock 8192", () -> x.clock(8192));
    }

    private static void told() {
        StreamSplitter x = new StreamSplitter();
        Check.illegal("told -1", () -> x.told(-1));
        Check.illegal("told 12", () -> x.told(12));
        Check.illegal("told smallest", () -> x.told(Integer.MIN_VALUE));
        x.feed(5, 0);
        Check.due("told 0", x.told(0), 5);
    }
}
