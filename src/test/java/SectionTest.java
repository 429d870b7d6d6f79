/** Promise 7, sections: how they are gathered from payloads, checked, and given up. */
public final class SectionTest {
    public static void main(String[] args) {
        severalInOne();
        overPackets();
        pointers();
        endedByPointer();
        stuffing();
        sizes();
        wrong();
        headInTwoPackets();
        gapGivesUp();
        inForceGivesUp();
        Check.end();
    }

    private static void counts(String what, StreamSplitter x, int good, int wrong, int givenUp) {
        Check.due(what + ": good", x.told(6), good);
        Check.due(what + ": wrong", x.told(7), wrong);
        Check.due(what + ": given up", x.told(8), givenUp);
    }

    /** A good section of the list of any size from 12 on that isn't used, for its byte 0. */
    private static int[] idle(int size) {
        return Wire.section(Wire.join(new int[] {9, 0, 0}, Wire.fill(size - 7, 5)));
    }

    private static int[] part(int[] row, int from, int to) {
        return java.util.Arrays.copyOfRange(row, from, to);
    }

    private static void severalInOne() {
        StreamSplitter x = new StreamSplitter();
        Wire.send(x, Wire.sections(0, 0, Wire.list(1, 5, 50), Wire.list(2), idle(12), Wire.list(3, 6, 60)));
        counts("several", x, 4, 0, 0);
        Check.due("the last is in force", x.told(10), 3);
        Check.due("its programme", x.programme(0, 0), 6);
    }

    private static void overPackets() {
        StreamSplitter x = new StreamSplitter();
        int[] big = idle(1024);
        Wire.send(x, Wire.packet(0, true, 0, Wire.join(new int[] {0}, part(big, 0, 183))));
        for (int k = 0; k < 4; k++) {
            Wire.send(x, Wire.packet(0, false, 1 + k, part(big, 183 + 184 * k, 367 + 184 * k)));
        }
        counts("not yet whole", x, 0, 0, 0);
        int[] rest = Wire.join(part(big, 919, 1024), Wire.list(1));
        Wire.send(x, Wire.packet(0, false, 5, rest));
        counts("whole with 1024", x, 1, 0, 0);
        Check.due("without S all else is left", x.told(10), -1);
        Wire.send(x, Wire.packet(0, false, 6, Wire.list(1)));
        counts("without S none begins", x, 1, 0, 0);
    }

    private static void pointers() {
        StreamSplitter x = new StreamSplitter();
        int[] list = Wire.list(4, 1, 77);
        int[] payload = Wire.join(new int[] {183 - list.length}, Wire.fill(183 - list.length, 0), list);
        Wire.send(x, Wire.packet(0, true, 0, payload));
        Check.due("what stands before is passed", x.told(10), 4);
        Wire.send(x, Wire.packet(0, true, 1, Wire.join(new int[] {183}, Wire.fill(183, 0))));
        counts("p takes all", x, 1, 0, 0);
        Wire.send(x, Wire.packet(0, true, 2, Wire.join(new int[] {184}, Wire.list(5), Wire.fill(171, 255))));
        counts("p is more than all", x, 1, 0, 0);
        Wire.send(x, Wire.packet(0, true, 3, new int[] {0}));
        Wire.send(x, Wire.packet(0, true, 4, new int[] {1}));
        counts("a payload of one byte", x, 1, 0, 0);
        Wire.send(x, Wire.packet(0, true, 5, Wire.join(new int[] {0}, part(idle(30), 0, 10))));
        counts("one begins", x, 1, 0, 0);
        Wire.send(x, Wire.packet(0, true, 6, Wire.join(new int[] {184}, Wire.fill(183, 0))));
        counts("and is given up with p that is too much", x, 1, 0, 1);
        int[] exact = idle(193);
        Wire.send(x, Wire.packet(0, true, 7, Wire.join(new int[] {0}, part(exact, 0, 10))));
        Wire.send(x, Wire.packet(0, true, 8, Wire.join(new int[] {183}, part(exact, 10, 193))));
        counts("p is just what it needs, and all there is", x, 2, 0, 1);
    }

    private static void endedByPointer() {
        StreamSplitter x = new StreamSplitter();
        int[] list = Wire.list(1, 3, 33);
        Wire.send(x, Wire.packet(0, true, 0, Wire.join(new int[] {0}, part(list, 0, 10))));
        int[] end = Wire.join(part(list, 10, 16), Wire.fill(4, 0));
        Wire.send(x, Wire.packet(0, true, 1, Wire.join(new int[] {10}, end, Wire.list(2, 4, 44))));
        counts("whole within p, then another", x, 2, 0, 0);
        Check.due("both were used", x.told(10), 2);
        Wire.send(x, Wire.packet(0, true, 2, Wire.join(new int[] {0}, part(list, 0, 10))));
        Wire.send(x, Wire.packet(0, true, 3, Wire.join(new int[] {5}, part(list, 10, 15), Wire.list(3))));
        counts("one short within p", x, 3, 0, 1);
        Check.due("then the next is used", x.told(10), 3);
        Wire.send(x, Wire.packet(0, true, 4, Wire.join(new int[] {0}, part(list, 0, 1))));
        Wire.send(x, Wire.packet(0, true, 5, Wire.join(new int[] {0}, Wire.list(4))));
        counts("p of 0", x, 4, 0, 2);
        Check.due("the next again", x.told(10), 4);
    }

    private static void stuffing() {
        StreamSplitter x = new StreamSplitter();
        int[] payload = Wire.join(new int[] {0}, Wire.list(1), new int[] {255}, Wire.list(2));
        Wire.send(x, Wire.packet(0, true, 0, payload));
        counts("behind 255 none begins", x, 1, 0, 0);
        Check.due("the first was used", x.told(10), 1);
        Wire.send(x, Wire.packet(0, true, 1, new int[] {0, 255}));
        Wire.send(x, Wire.packet(0, true, 2, Wire.join(new int[] {0}, Wire.list(3))));
        counts("stuffing is nothing gathered", x, 2, 0, 0);
    }

    private static void sizes() {
        StreamSplitter x = new StreamSplitter();
        int[] large = {0, 0x03, 0xFE};
        Wire.send(x, Wire.packet(0, true, 0, Wire.join(new int[] {0}, large, Wire.list(1))));
        counts("a size of 1025", x, 0, 0, 1);
        Wire.send(x, Wire.packet(0, true, 1, Wire.join(new int[] {0}, new int[] {0, 0x03})));
        counts("not known yet", x, 0, 0, 1);
        Wire.send(x, Wire.packet(0, true, 2, Wire.join(new int[] {1, 0xFE}, Wire.list(1))));
        counts("known within p: what begins behind is left, too", x, 0, 0, 2);
        Check.due("no list", x.told(10), -1);
        Wire.send(x, Wire.packet(0, true, 3, Wire.join(new int[] {0}, Wire.list(1), large)));
        counts("behind a good one", x, 1, 0, 3);
        Wire.send(x, Wire.packet(0, false, 4, Wire.fill(184, 0)));
        counts("nothing is gathered then", x, 1, 0, 3);
        Wire.send(x, Wire.packet(0, true, 5, new int[] {0, 0, 0xF3, 0xFD}));
        Wire.send(x, Wire.packet(0, false, 6, Wire.fill(184, 0)));
        counts("1024 is not too large", x, 1, 0, 3);
        Wire.send(x, Wire.packet(0, true, 7, Wire.join(new int[] {0}, Wire.list(2))));
        counts("but it isn't whole", x, 2, 0, 4);
    }

    private static void wrong() {
        StreamSplitter x = new StreamSplitter();
        int[] list = Wire.list(1, 5, 50);
        list[9] ^= 1;
        Wire.send(x, Wire.sections(0, 0, list));
        counts("a wrong bit", x, 0, 1, 0);
        Check.due("it isn't used", x.told(10), -1);
        Wire.send(x, Wire.sections(0, 1, idle(12), Wire.list(2)));
        counts("12 bytes are enough", x, 2, 1, 0);
        Wire.send(x, Wire.sections(0, 2, idle(11)));
        counts("11 are not, though the check is 0", x, 2, 2, 0);
        Wire.send(x, Wire.sections(0, 3, new int[] {0, 0, 0}, Wire.list(3)));
        counts("three are whole, too", x, 3, 3, 0);
        Check.due("the next one is used", x.told(10), 3);
    }

    private static void headInTwoPackets() {
        StreamSplitter x = new StreamSplitter();
        int[] list = Wire.list(1, 2, 3);
        Wire.send(x, Wire.packet(0, true, 0, Wire.join(new int[] {0}, part(list, 0, 1))));
        Wire.send(x, Wire.packet(0, false, 1, part(list, 1, 2)));
        Wire.send(x, Wire.packet(0, false, 2, part(list, 2, 16)));
        counts("byte by byte", x, 1, 0, 0);
        Check.due("used", x.programme(0, 1), 3);
    }

    private static void gapGivesUp() {
        StreamSplitter x = new StreamSplitter();
        int[] list = Wire.list(1, 2, 3);
        Wire.send(x, Wire.packet(0, true, 0, Wire.join(new int[] {0}, part(list, 0, 8))));
        Wire.send(x, Wire.packet(0, false, 2, part(list, 8, 16)));
        counts("a gap", x, 0, 0, 1);
        Wire.send(x, Wire.packet(0, false, 5, part(list, 8, 16)));
        counts("nothing was gathered", x, 0, 0, 1);
        int[] first = Wire.packet(0, true, 6, Wire.join(new int[] {0}, part(list, 0, 8)));
        Wire.send(x, first, first);
        int[] leap = Wire.packetWith(0, false, 11, Wire.join(new int[] {128}, Wire.fill(174, 255)), part(list, 8, 16));
        Wire.send(x, leap);
        counts("neither a twin nor a leap that is told", x, 1, 0, 1);
        Check.due("used", x.told(10), 1);
    }

    private static void inForceGivesUp() {
        StreamSplitter x = new StreamSplitter();
        Wire.send(x, Wire.sections(0, 0, Wire.list(1, 1, 100, 2, 200)));
        Wire.send(x, Wire.sections(100, 0, Wire.plan(1, 1, 101, 2, 101, 134, 102)));
        int[] begun = {0, 2, 0, 20, 0};
        Wire.send(x, Wire.packet(200, true, 0, begun), Wire.packet(102, true, 0, begun));
        x.writePiece(101, -1, 9, 1, false);
        x.take();
        counts("three are gathered", x, 2, 0, 0);
        Wire.send(x, Wire.sections(0, 1, Wire.list(1, 1, 100)));
        counts("the same version gives up nothing", x, 3, 0, 0);
        int[] five = Wire.plan(1, 2, 0, 1, 1, 2, 2, 3, 3, 4, 4, 5, 5);
        Wire.send(x, Wire.sections(100, 1, Wire.plan(3, 2, 101), Wire.plan(1, 1, 101), five, Wire.list(7)));
        counts("nor do plans that aren't used", x, 7, 0, 0);
        Wire.send(x, Wire.sections(100, 2, Wire.plan(1, 2, 101, 2, 101, 134, 102)));
        counts("a plan gives up all of them", x, 8, 0, 3);
        Wire.send(x, Wire.packet(200, true, 1, begun), Wire.packet(0, true, 2, begun));
        Wire.send(x, Wire.packet(0, true, 3, Wire.join(new int[] {0}, Wire.list(2, 1, 100, 2, 200))));
        counts("a list, too", x, 9, 0, 5);
    }
}
