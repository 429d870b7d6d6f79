/** The boundary cases of sections, a sentence of the document at a time. */
public final class SectionEdgesTest {
    public static void main(String[] args) {
        pointerTooLarge();
        pointerTooLargeDoesNothingElse();
        pointerGoesOn();
        pointerWithoutSection();
        pointerOfShortPayload();
        stuffing();
        fullPayload();
        fewBytesAtTheEnd();
        withoutBeginning();
        sizeOfThree();
        sizeOf1024();
        tooLargeWhenKnown();
        tooLargeWithoutS();
        tooLargeWithinPointer();
        tooLargeAmongOthers();
        twelveBytes();
        checkOfEachBit();
        goodThoughNotUsed();
        firstByteOfEach();
        unusedPid();
        somethingWasGathered();
        Check.end();
    }

    private static void counts(String what, StreamSplitter x, int good, int wrong, int givenUp) {
        Check.due(what + ": good", x.told(6), good);
        Check.due(what + ": wrong", x.told(7), wrong);
        Check.due(what + ": given up", x.told(8), givenUp);
    }

    /** An object that gathers a section of the list, of which it has the first bytes. */
    private static StreamSplitter gathering(int[] section, int bytes) {
        StreamSplitter x = new StreamSplitter();
        Wire.send(x, Wire.packet(0, true, 0, Wire.pointed(0, Wire.part(section, 0, bytes))));
        return x;
    }

    private static void pointerTooLarge() {
        Check.sentence("if it has less than p bytes behind that, what is gathered is given up, and nothing else.");
        for (int behind : new int[] {1, 2, 30, 182, 183}) {
            int[] section = Wire.idle(20 + behind);
            int[] rest = Wire.part(section, 20, 20 + behind);
            StreamSplitter x = gathering(section, 20);
            Wire.send(x, Wire.packet(0, true, 1, Wire.pointed(behind, rest)));
            counts("p is all of " + behind, x, 1, 0, 0);
            StreamSplitter y = gathering(section, 20);
            Wire.send(y, Wire.packet(0, true, 1, Wire.pointed(behind + 1, rest)));
            counts("p is one more than " + behind, y, 0, 0, 1);
            Wire.send(y, Wire.packet(0, false, 2, rest));
            counts("nothing is gathered then", y, 0, 0, 1);
        }
        StreamSplitter x = gathering(Wire.idle(30), 20);
        Wire.send(x, Wire.packet(0, true, 1, Wire.pointed(255, Wire.fill(183, 5))));
        counts("the largest p", x, 0, 0, 1);
    }

    private static void pointerTooLargeDoesNothingElse() {
        Check.sentence("what is gathered is given up, and nothing else.");
        StreamSplitter x = new StreamSplitter();
        int[] list = Wire.list(1, 1, 100);
        Wire.send(x, Wire.packet(0, true, 0, Wire.pointed(list.length + 1, list)));
        counts("a list behind it", x, 0, 0, 0);
        Wire.send(x, Wire.packet(0, true, 1, Wire.pointed(255, list, Wire.fill(167, 255))));
        counts("in a full payload", x, 0, 0, 0);
        Check.due("none is in force", x.told(10), -1);
        Wire.send(x, Wire.packet(0, false, 2, list));
        counts("nothing had begun", x, 0, 0, 0);
        Wire.send(x, Wire.packet(0, true, 3, Wire.pointed(0, list)));
        Check.due("with p of 0 it is", x.told(10), 1);
    }

    private static void pointerGoesOn() {
        Check.sentence("The p bytes go on with the section that is gathered, if there is one (what is more than it"
                + " has is left); if it is not whole then it is given up.");
        int[] section = Wire.idle(30);
        for (int p = 0; p <= 13; p++) {
            int[] more = Wire.join(Wire.part(section, 20, 30), new int[] {0, 0xB0, 9});
            StreamSplitter x = gathering(section, 20);
            Wire.send(x, Wire.packet(0, true, 1, Wire.pointed(p, Wire.part(more, 0, p), Wire.list(p, 1, 100))));
            counts("ten are needed, p is " + p, x, p >= 10 ? 2 : 1, 0, p >= 10 ? 0 : 1);
            Check.due("the list behind p of " + p, x.told(10), p);
            Wire.send(x, Wire.packet(0, true, 2, Wire.pointed(0, new int[] {255})));
            counts("nothing is gathered after p of " + p, x, p >= 10 ? 2 : 1, 0, p >= 10 ? 0 : 1);
        }
    }

    private static void pointerWithoutSection() {
        Check.sentence("The p bytes go on with the section that is gathered, if there is one");
        StreamSplitter x = new StreamSplitter();
        int[] list = Wire.list(1, 1, 100);
        Wire.send(x, Wire.packet(0, true, 0, Wire.pointed(list.length, list)));
        counts("a whole list within p", x, 0, 0, 0);
        Wire.send(x, Wire.packet(0, true, 1, Wire.pointed(list.length, list, Wire.list(2, 1, 100))));
        counts("one behind p", x, 1, 0, 0);
        Check.due("which is in force", x.told(10), 2);
        Wire.send(x, Wire.packet(0, true, 2, Wire.pointed(183, Wire.fill(183, 0))));
        counts("p is all of a full payload", x, 1, 0, 0);
        Wire.send(x, Wire.packet(0, true, 3, Wire.pointed(182, Wire.fill(182, 7), new int[] {0})));
        Wire.send(x, Wire.packet(0, false, 4, Wire.part(Wire.list(3), 1, 12)));
        counts("one begins with the last byte of all", x, 2, 0, 0);
        Check.due("and is in force", x.told(10), 3);
    }

    private static void pointerOfShortPayload() {
        Check.sentence("With S a payload begins with a byte p; if it has less than p bytes behind that");
        StreamSplitter x = new StreamSplitter();
        for (int p : new int[] {0, 1, 255}) {
            Wire.send(x, Wire.packet(0, true, p & 15, new int[] {p}));
            counts("nothing is gathered, p alone: " + p, x, 0, 0, 0);
        }
        for (int p : new int[] {0, 1}) {
            StreamSplitter y = gathering(Wire.idle(30), 29);
            Wire.send(y, Wire.packet(0, true, 1, new int[] {p}));
            counts("something is, p alone: " + p, y, 0, 0, 1);
        }
    }

    private static void stuffing() {
        Check.sentence("as long as there are bytes, the next one is not 255, a section begins");
        for (int first = 252; first <= 255; first++) {
            StreamSplitter x = new StreamSplitter();
            int[] section = Wire.section(Wire.join(new int[] {first, 0, 0}, Wire.fill(6, 1)));
            Wire.send(x, Wire.packet(0, true, 0, Wire.pointed(0, section, Wire.list(1))));
            counts("begins with " + first, x, first == 255 ? 0 : 2, 0, 0);
            Wire.send(x, Wire.packet(0, true, 1, Wire.pointed(0, Wire.list(2), section, Wire.list(3))));
            counts("behind another " + first, x, first == 255 ? 1 : 5, 0, 0);
            Check.due("in force", x.told(10), first == 255 ? 2 : 3);
        }
        StreamSplitter y = gathering(Wire.idle(30), 10);
        Wire.send(y, Wire.packet(0, false, 1, Wire.fill(19, 255)));
        counts("255 within a section is one of its bytes", y, 0, 0, 0);
        Wire.send(y, Wire.packet(0, false, 2, Wire.fill(1, 255)));
        counts("up to its end", y, 0, 1, 0);
    }

    private static void fullPayload() {
        Check.sentence("Behind them sections begin, one behind the other");
        StreamSplitter x = new StreamSplitter();
        int[] all = {};
        for (int version = 0; version < 14; version++) {
            all = Wire.join(all, Wire.list(version));
        }
        Wire.send(x, Wire.packet(0, true, 0, Wire.pointed(0, all, Wire.idle(15))));
        counts("fifteen to the last byte", x, 15, 0, 0);
        Check.due("each is used", x.told(10), 13);
        Wire.send(x, Wire.packet(0, true, 1, Wire.pointed(0, new int[] {255})));
        counts("nothing is gathered", x, 15, 0, 0);
    }

    private static void fewBytesAtTheEnd() {
        Check.sentence("a section begins and takes bytes until it is whole, or there are no more.");
        int[] list = Wire.list(5, 1, 100);
        for (int bytes = 1; bytes <= 16; bytes++) {
            StreamSplitter x = gathering(list, bytes);
            counts("begun with " + bytes, x, bytes == 16 ? 1 : 0, 0, 0);
            Wire.send(x, Wire.packet(0, false, 1, Wire.join(Wire.part(list, bytes, 16), Wire.list(6))));
            counts("ended after " + bytes, x, 1, 0, 0);
            Check.due("in force after " + bytes, x.told(10), 5);
        }
    }

    private static void withoutBeginning() {
        Check.sentence("Without S the payload goes on with a section that is gathered, until that is whole; all else"
                + " of it is left.");
        StreamSplitter x = new StreamSplitter();
        Wire.send(x, Wire.packet(0, false, 0, Wire.list(1)));
        Wire.send(x, Wire.packet(0, false, 1, Wire.pointed(0, Wire.list(1))));
        counts("none is gathered", x, 0, 0, 0);
        int[] section = Wire.idle(30);
        Wire.send(x, Wire.packet(0, true, 2, Wire.pointed(0, Wire.part(section, 0, 20))));
        Wire.send(x, Wire.packet(0, false, 3, Wire.part(section, 20, 29)));
        counts("one byte short", x, 0, 0, 0);
        Wire.send(x, Wire.packet(0, false, 4, Wire.join(Wire.part(section, 29, 30), Wire.list(1))));
        counts("whole", x, 1, 0, 0);
        Wire.send(x, Wire.packet(0, false, 5, Wire.list(1)));
        counts("what comes then is left", x, 1, 0, 0);
        Wire.send(x, Wire.packet(0, true, 6, new int[] {0}));
        counts("nothing is gathered", x, 1, 0, 0);
        Check.due("no list came", x.told(10), -1);
    }

    private static void sizeOfThree() {
        Check.sentence("The SIZE of a section is 3 and the last 12 bits of its bytes 1 and 2 together");
        StreamSplitter x = new StreamSplitter();
        Wire.send(x, Wire.packet(0, true, 0, Wire.pointed(0, new int[] {0, 0xF0, 0}, Wire.list(1))));
        counts("three bytes are whole, and wrong", x, 1, 1, 0);
        Wire.send(x, Wire.packet(0, true, 1, Wire.pointed(0, new int[] {0, 0, 1, 0}, Wire.list(2))));
        counts("so are four", x, 2, 2, 0);
        Wire.send(x, Wire.packet(0, true, 2, Wire.pointed(0, new int[] {0, 0})));
        counts("two are not", x, 2, 2, 0);
        Wire.send(x, Wire.packet(0, false, 3, Wire.join(new int[] {0}, Wire.list(3))));
        counts("three, in two packets", x, 2, 3, 0);
        Check.due("the last that began", x.told(10), 2);
        int[] large = Wire.idle(3 + 256);
        Wire.send(x, Wire.packet(0, true, 4, Wire.pointed(0, Wire.part(large, 0, 183))));
        Wire.send(x, Wire.packet(0, false, 5, Wire.part(large, 183, 258)));
        counts("256 and 3, one short", x, 2, 3, 0);
        Wire.send(x, Wire.packet(0, false, 6, Wire.part(large, 258, 259)));
        counts("256 and 3", x, 3, 3, 0);
    }

    private static void sizeOf1024() {
        Check.sentence("one with more than 1024 is given up when that is known");
        int[] large = Wire.idle(1024);
        StreamSplitter x = new StreamSplitter();
        Wire.send(x, Wire.packet(0, true, 0, Wire.pointed(0, Wire.part(large, 0, 183))));
        for (int k = 0; k < 4; k++) {
            Wire.send(x, Wire.packet(0, false, 1 + k, Wire.part(large, 183 + 184 * k, 367 + 184 * k)));
        }
        Wire.send(x, Wire.packet(0, false, 5, Wire.part(large, 919, 1023)));
        counts("1023 of 1024", x, 0, 0, 0);
        Wire.send(x, Wire.packet(0, false, 6, Wire.part(large, 1023, 1024)));
        counts("1024", x, 1, 0, 0);
        Wire.send(x, Wire.packet(0, true, 7, Wire.pointed(0, Wire.list(1))));
        counts("the next one", x, 2, 0, 0);
    }

    private static void tooLargeWhenKnown() {
        Check.sentence("one with more than 1024 is given up when that is known, and all the rest of the payload is"
                + " left");
        for (int more : new int[] {1021, 1022, 1023, 1277, 2048, 4095}) {
            int[] head = {0, 0xB0 | more >> 8, more & 255};
            StreamSplitter x = new StreamSplitter();
            Wire.send(x, Wire.packet(0, true, 0, Wire.pointed(0, Wire.part(head, 0, 2))));
            counts("not known yet", x, 0, 0, 0);
            Wire.send(x, Wire.packet(0, true, 1, Wire.pointed(0, head)));
            counts(more + " and 3", x, 0, 0, more == 1021 ? 1 : 2);
            Wire.send(x, Wire.packet(0, true, 2, Wire.pointed(0, head, Wire.list(1))));
            counts("what follows it is left", x, 0, 0, more == 1021 ? 2 : 3);
            Wire.send(x, Wire.packet(0, true, 3, Wire.pointed(0, Wire.list(2))));
            counts("the next payload", x, 1, 0, 3);
            Check.due("is used", x.told(10), 2);
        }
    }

    private static void tooLargeWithoutS() {
        Check.sentence("one with more than 1024 is given up when that is known");
        StreamSplitter x = gathering(new int[] {0, 0x03}, 2);
        Wire.send(x, Wire.packet(0, false, 1, Wire.join(new int[] {0xFE}, Wire.list(1))));
        counts("1025, without S", x, 0, 0, 1);
        Wire.send(x, Wire.packet(0, false, 2, Wire.list(1)));
        counts("nothing is gathered", x, 0, 0, 1);
        StreamSplitter y = gathering(new int[] {0, 0x03}, 2);
        Wire.send(y, Wire.packet(0, false, 1, Wire.join(new int[] {0xFD}, Wire.list(1))));
        counts("1024, without S", y, 0, 0, 0);
        Wire.send(y, Wire.packet(0, true, 2, Wire.pointed(0, Wire.list(1))));
        counts("it was gathered", y, 1, 0, 1);
    }

    private static void tooLargeWithinPointer() {
        Check.sentence("all the rest of the payload is left (what begins behind the p bytes, too)");
        for (int size : new int[] {0xFD, 0xFE}) {
            StreamSplitter x = gathering(new int[] {0, 0x03}, 2);
            Wire.send(x, Wire.packet(0, true, 1, Wire.pointed(1, new int[] {size}, Wire.list(1))));
            counts("within p " + size, x, size == 0xFD ? 1 : 0, 0, 1);
            Check.due("the list behind " + size, x.told(10), size == 0xFD ? 1 : -1);
            StreamSplitter y = gathering(new int[] {0}, 1);
            Wire.send(y, Wire.packet(0, true, 1, Wire.pointed(4, new int[] {0x03, size, 1, 2}, Wire.list(1))));
            counts("within more of p " + size, y, size == 0xFD ? 1 : 0, 0, 1);
        }
    }

    private static void tooLargeAmongOthers() {
        Check.sentence("one with more than 1024 is given up when that is known, and all the rest of the payload is"
                + " left");
        StreamSplitter x = new StreamSplitter();
        int[] large = {0, 0xFF, 0xFF};
        Wire.send(x, Wire.packet(0, true, 0, Wire.pointed(0, Wire.list(1), large, Wire.list(2))));
        counts("between two", x, 1, 0, 1);
        Check.due("the first is in force", x.told(10), 1);
    }

    private static void twelveBytes() {
        Check.sentence("A whole section is GOOD if it has 12 bytes or more and its CHECK is 0");
        StreamSplitter x = new StreamSplitter();
        for (int size = 7; size <= 14; size++) {
            int[] section = Wire.section(Wire.join(new int[] {9, 0, 0}, Wire.fill(size - 7, 5)));
            Check.due("its check", Wire.check(section), 0);
            Wire.send(x, Wire.packet(0, true, size, Wire.pointed(0, section)));
            counts("size " + size, x, Math.max(0, size - 11), Math.min(size, 11) - 6, 0);
        }
    }

    private static void checkOfEachBit() {
        Check.sentence("for each bit of it: with the highest bit exclusive or this one they go up by one place");
        StreamSplitter x = new StreamSplitter();
        int[] list = Wire.list(1, 1, 100);
        int sent = 0;
        for (int at = 0; at < 16; at++) {
            if (at == 1 || at == 2) {
                continue;
            }
            int[] all = {};
            for (int bit = 0; bit < 8; bit++) {
                all = Wire.join(all, Wire.with(list, at, list[at] ^ 1 << bit));
            }
            Wire.send(x, Wire.packet(0, true, sent, Wire.pointed(0, all)));
            sent++;
            counts("bits of byte " + at, x, 0, 8 * sent, 0);
        }
        Wire.send(x, Wire.packet(0, true, sent, Wire.pointed(0, list)));
        counts("none changed", x, 1, 8 * sent, 0);
    }

    private static void goodThoughNotUsed() {
        Check.sentence("A good one (it is counted as good also if it isn't used)");
        StreamSplitter x = Wire.tuned();
        counts("the tables", x, 2, 0, 0);
        Wire.send(x, Wire.packet(0, true, 1, Wire.pointed(0, Wire.idle(12))));
        counts("of the list", x, 3, 0, 0);
        Wire.send(x, Wire.packet(100, true, 1, Wire.pointed(0, Wire.idle(12))));
        counts("of a plan", x, 4, 0, 0);
        Wire.send(x, Wire.packet(102, true, 0, Wire.pointed(0, Wire.idle(12))));
        counts("of orders", x, 5, 0, 0);
        Wire.send(x, Wire.packet(102, true, 1, Wire.pointed(0, Wire.with(Wire.idle(12), 11, 0))));
        counts("a wrong one of orders", x, 5, 1, 0);
    }

    private static void firstByteOfEach() {
        Check.sentence("if its byte 0 is 0 in the list, 2 in a plan, 252 in orders.");
        int[] order = Wire.orderHead(0, 1).n(8, 0).bytes(0xD0).n(32, 0).end();
        for (int first : new int[] {0, 1, 2, 3, 251, 252, 253}) {
            StreamSplitter x = Wire.tuned();
            int[] plan = Wire.part(Wire.plan(1, 7, 5, 2, 101, 134, 102), 0, 22);
            Wire.send(x, Wire.packet(102, true, 0, Wire.pointed(0, Wire.section(Wire.with(order, 0, first)))));
            Check.due("orders " + first, x.programme(0, 5), first == 252 ? 1 : 0);
            Wire.send(x, Wire.packet(100, true, 1, Wire.pointed(0, Wire.section(Wire.with(plan, 0, first)))));
            Check.due("plan " + first, x.programme(0, 2), first == 2 ? 7 : 0);
            int[] list = Wire.part(Wire.list(9, 1, 100), 0, 12);
            Wire.send(x, Wire.packet(0, true, 1, Wire.pointed(0, Wire.section(Wire.with(list, 0, first)))));
            Check.due("list " + first, x.told(10), first == 0 ? 9 : 0);
            counts("all are good", x, 5, 0, 0);
        }
    }

    private static void unusedPid() {
        Check.sentence("Or nothing: the payload is not used.");
        StreamSplitter x = new StreamSplitter();
        int[] plan = Wire.plan(1, 1, 5);
        Wire.send(x, Wire.packet(100, true, 0, Wire.pointed(0, plan)));
        Wire.send(x, Wire.packet(100, true, 1, Wire.pointed(0, Wire.part(plan, 0, 8))));
        counts("before the list", x, 0, 0, 0);
        Wire.send(x, Wire.packet(0, true, 0, Wire.pointed(0, Wire.list(1, 1, 100))));
        Wire.send(x, Wire.packet(100, false, 2, Wire.part(plan, 8, 16)));
        counts("nothing was gathered", x, 1, 0, 0);
        Wire.send(x, Wire.packet(100, true, 3, Wire.pointed(0, plan)));
        counts("behind the list", x, 2, 0, 0);
        Check.due("it is a plan", x.programme(0, 2), 1);
        Check.due("the counts went on all the time", x.told(4), 0);
    }

    private static void somethingWasGathered() {
        Check.sentence("What is gathered is counted as GIVEN UP when there was something (a section with a byte");
        for (int bytes : new int[] {0, 1, 2, 3, 15}) {
            StreamSplitter x = gathering(Wire.list(1, 1, 100), bytes);
            Wire.send(x, Wire.packet(0, false, 5, new int[] {0}));
            counts("a gap after " + bytes, x, 0, 0, bytes == 0 ? 0 : 1);
            StreamSplitter y = gathering(Wire.list(1, 1, 100), bytes);
            Wire.send(y, Wire.packet(0, true, 1, new int[] {0}));
            counts("a new beginning after " + bytes, y, 0, 0, bytes == 0 ? 0 : 1);
            StreamSplitter z = gathering(Wire.list(1, 1, 100), bytes);
            Wire.send(z, Wire.with(Wire.packet(0, true, 1, new int[] {0}), 3, 0x71));
            counts("X after " + bytes, z, 0, 0, bytes == 0 ? 0 : 1);
        }
        StreamSplitter x = gathering(Wire.list(1, 1, 100), 16);
        Wire.send(x, Wire.packet(0, false, 5, new int[] {0}));
        counts("a whole one is not given up", x, 1, 0, 0);
    }
}
