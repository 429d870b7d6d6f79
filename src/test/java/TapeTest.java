/** Promises 2 to 6: feed, spoil, tape, drop, seal. */
public final class TapeTest {
    public static void main(String[] args) {
        feed();
        feedToTheEnd();
        spoil();
        tape();
        drop();
        seal();
        Check.end();
    }

    private static void feed() {
        StreamSplitter x = new StreamSplitter();
        Check.illegal("feed 0", () -> x.feed(0, 1));
        Check.illegal("feed 9", () -> x.feed(9, 1));
        Check.illegal("feed -1", () -> x.feed(-1, 1));
        Check.illegal("feed smallest", () -> x.feed(Integer.MIN_VALUE, 1));
        Check.due("nothing came", x.told(0), 0);
        Check.due("feed 1", x.feed(1, 0x1234567890ABCDEFL), 1);
        Check.due("feed 8", x.feed(8, 0xF1E2D3C4B5A69788L), 9);
        Check.due("feed 3", x.feed(3, -2), 12);
        Wire.tapeIs("feed", x, Wire.row().n(8, 0xEF).n(64, 0x8897A6B5C4D3E2F1L).bytes(254, 255, 255).end());
    }

    private static void feedToTheEnd() {
        StreamSplitter x = new StreamSplitter();
        for (int k = 0; k < 2; k++) {
            x.writePiece(8, 0, 4000, 1, true);
        }
        x.writePiece(8, 0, 900, 1, true);
        Check.due("before the end", x.told(0), 9212);
        for (int k = 0; k < 23; k++) {
            x.feed(8, 0);
        }
        Check.due("near the end", x.feed(3, 0), 9399);
        Check.due("two are too many", x.feed(2, 0x0102), -1);
        Check.due("nothing of them came", x.tape(9395), 0);
        Check.due("the last one", x.feed(1, 0x77), 9400);
        Check.due("at its place", x.tape(9399), 0x77);
        Check.due("one more", x.feed(1, 0), -1);
        Check.illegal("throws before NONE", () -> x.feed(9, 0));
        Check.due("still", x.told(0), 9400);
        Check.due("room again", x.drop(5, 8), 9392);
        Check.due("fills again", x.feed(8, -1), 9400);
    }

    private static void spoil() {
        StreamSplitter x = new StreamSplitter();
        Check.outside("spoil of an empty tape", () -> x.spoil(0, 0));
        x.feed(3, 0x3020F0);
        Check.due("spoil first", x.spoil(0, 255), 0xF0);
        Check.due("spoil last", x.spoil(2, 0), 0x30);
        Check.due("what it was", x.spoil(0, 7), 255);
        Check.outside("spoil behind", () -> x.spoil(3, 0));
        Check.outside("spoil below", () -> x.spoil(-1, 0));
        Check.outside("the place is looked at first", () -> x.spoil(3, 256));
        Check.illegal("spoil 256", () -> x.spoil(0, 256));
        Check.illegal("spoil -1", () -> x.spoil(0, -1));
        Check.due("after it", x.tape(0), 0x2007);
    }

    private static void tape() {
        StreamSplitter x = new StreamSplitter();
        x.feed(8, 0x8877665544332211L);
        x.feed(2, 0xAA99);
        Check.due("tape 0", x.tape(0), 0x8877665544332211L);
        Check.due("tape 1", x.tape(1), 0x9988776655443322L);
        Check.due("tape 8", x.tape(8), 0xAA99);
        Check.due("tape 10", x.tape(10), 0);
        Check.due("tape -3", x.tape(-3), 0x5544332211000000L);
        Check.due("tape -8", x.tape(-8), 0);
        Check.due("tape largest", x.tape(Integer.MAX_VALUE), 0);
        Check.due("tape smallest", x.tape(Integer.MIN_VALUE), 0);
        x.drop(0, 9);
        Check.due("what is gone does not show", x.tape(0), 0xAA);
    }

    private static void drop() {
        StreamSplitter x = new StreamSplitter();
        Check.due("drop nothing of nothing", x.drop(0, 0), 0);
        x.feed(8, 0x0807060504030201L);
        Check.due("drop middle", x.drop(2, 3), 5);
        Wire.tapeIs("drop", x, new int[] {1, 2, 6, 7, 8});
        Check.due("drop none", x.drop(5, 0), 5);
        Check.outside("drop behind", () -> x.drop(5, 1));
        Check.outside("drop too many", () -> x.drop(1, 5));
        Check.outside("drop at no place", () -> x.drop(6, 0));
        Check.outside("drop below", () -> x.drop(-1, 1));
        Check.outside("drop less than none", () -> x.drop(1, -1));
        Check.outside("drop wraps", () -> x.drop(1, Integer.MAX_VALUE));
        Check.outside("drop wraps at the largest", () -> x.drop(Integer.MAX_VALUE, Integer.MAX_VALUE));
        Wire.tapeIs("after them", x, new int[] {1, 2, 6, 7, 8});
        Check.due("drop the end", x.drop(3, 2), 3);
        Check.due("drop all", x.drop(0, 3), 0);
    }

    private static void seal() {
        StreamSplitter x = new StreamSplitter();
        Check.outside("seal of an empty tape", () -> x.seal(0, 0));
        int[] text = {'1', '2', '3', '4', '5', '6', '7', '8', '9'};
        Wire.feed(x, new int[] {5}, text, new int[] {1, 2, 3, 4, 6});
        x.seal(1, 10);
        Wire.tapeIs("the known check of this text", x,
                new int[] {5}, text, new int[] {0x03, 0x76, 0xE6, 0xE7, 6});
        x.seal(0, 1);
        int check = (int) Wire.check(new int[] {5});
        Check.due("from the first byte on", x.tape(1) & 0xFFFFFFFFL, Integer.reverseBytes(check) & 0xFFFFFFFFL);
        x.seal(11, 11);
        Check.due("the check of nothing", x.tape(11), 0xFFFFFFFFL);
        Check.outside("seal: three bytes alone", () -> x.seal(0, 12));
        Check.outside("seal: from above to", () -> x.seal(3, 2));
        Check.outside("seal: from below 0", () -> x.seal(-1, 2));
        Check.outside("seal: wraps", () -> x.seal(0, Integer.MAX_VALUE));
        Check.outside("seal: wraps twice", () -> x.seal(Integer.MAX_VALUE, Integer.MAX_VALUE));
        Check.due("after them", x.tape(11), 0xFFFFFFFFL);
    }
}
