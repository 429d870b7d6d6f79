import java.util.Arrays;

/** Makes packets and sections by hand, by the document's words and not by the program's code. */
final class Wire {
    private final StringBuilder bits = new StringBuilder();

    static Wire row() {
        return new Wire();
    }

    /** So many bits of a number, the highest first. */
    Wire n(int count, long number) {
        for (int k = count - 1; k >= 0; k--) {
            bits.append((number >>> k & 1) == 1 ? '1' : '0');
        }
        return this;
    }

    Wire bytes(int... values) {
        for (int value : values) {
            n(8, value);
        }
        return this;
    }

    Wire times(int count, int value) {
        for (int k = 0; k < count; k++) {
            n(8, value);
        }
        return this;
    }

    int[] end() {
        if (bits.length() % 8 != 0) {
            throw new IllegalStateException("not whole bytes");
        }
        int[] out = new int[bits.length() / 8];
        for (int i = 0; i < out.length; i++) {
            out[i] = Integer.parseInt(bits.substring(8 * i, 8 * i + 8), 2);
        }
        return out;
    }

    static int[] join(int[]... parts) {
        int[] out = new int[0];
        for (int[] part : parts) {
            int old = out.length;
            out = Arrays.copyOf(out, old + part.length);
            System.arraycopy(part, 0, out, old, part.length);
        }
        return out;
    }

    static int[] fill(int count, int value) {
        int[] out = new int[count];
        Arrays.fill(out, value);
        return out;
    }

    static int[] part(int[] row, int from, int to) {
        return Arrays.copyOfRange(row, from, to);
    }

    /** The row with another byte at a place. */
    static int[] with(int[] row, int at, int value) {
        int[] out = row.clone();
        out[at] = value;
        return out;
    }

    static long check(int[] bytes) {
        long check = 0xFFFFFFFFL;
        for (int value : bytes) {
            for (int k = 7; k >= 0; k--) {
                long top = check >> 31 ^ value >> k & 1;
                check = check << 1 & 0xFFFFFFFFL;
                if (top == 1) {
                    check ^= 79764919;
                }
            }
        }
        return check;
    }

    /** Puts the size into bytes 1 and 2 and the check behind all. */
    static int[] section(int[] body) {
        int[] sized = body.clone();
        int size = body.length + 4 - 3;
        sized[1] = sized[1] & 0xF0 | size >> 8;
        sized[2] = size & 255;
        return join(sized, row().n(32, check(sized)).end());
    }

    /** A list: version, then a number and a PID of each programme. */
    static int[] list(int version, int... numbersAndPids) {
        Wire w = row().bytes(0, 0xB0, 0, 255, 255).n(2, 3).n(5, version).n(1, 1).bytes(0, 0);
        for (int k = 0; k < numbersAndPids.length; k += 2) {
            w.n(16, numbersAndPids[k]).n(3, 7).n(13, numbersAndPids[k + 1]);
        }
        return section(w.end());
    }

    /** A plan: number, version, PID of the clock, then a type and a PID of each stream. */
    static int[] plan(int number, int version, int clock, int... typesAndPids) {
        Wire w = row().bytes(2, 0xB0, 0).n(16, number).n(2, 3).n(5, version).n(1, 1).bytes(0, 0);
        w.n(3, 7).n(13, clock).n(4, 15).n(12, 0);
        for (int k = 0; k < typesAndPids.length; k += 2) {
            w.n(8, typesAndPids[k]).n(3, 7).n(13, typesAndPids[k + 1]).n(4, 15).n(12, 0);
        }
        return section(w.end());
    }

    /** The head of an order's section, up to its name. */
    static Wire orderHead(long shift, int name) {
        return row().bytes(252, 0x30, 0, 0).n(1, 0).n(6, 63).n(33, shift).n(32, -1).bytes(5).n(32, name);
    }

    /** A packet that is all payload; shorter payloads get a field of stuffing. */
    static int[] packet(int pid, boolean begins, int count, int[] payload) {
        int less = 184 - payload.length;
        if (less == 0) {
            return join(head(pid, begins, 1, count), payload);
        }
        int[] extra = less == 1 ? new int[] {0} : join(new int[] {less - 1, 0}, fill(less - 2, 255));
        return join(head(pid, begins, 3, count), extra, payload);
    }

    /** A packet with a field of the caller's (behind its length byte) and payload behind it. */
    static int[] packetWith(int pid, boolean begins, int count, int[] extra, int[] payload) {
        int parts = payload.length == 0 ? 2 : 3;
        return join(head(pid, begins, parts, count), new int[] {extra.length}, extra, payload);
    }

    private static int[] head(int pid, boolean begins, int parts, int count) {
        return row().bytes(71).n(1, 0).n(1, begins ? 1 : 0).n(1, 0).n(13, pid)
                .n(2, 0).n(2, parts).n(4, count).end();
    }

    /** A packet in which sections begin; stuffing behind them. */
    static int[] sections(int pid, int count, int[]... sections) {
        int[] payload = join(new int[] {0}, join(sections));
        return packet(pid, true, count, join(payload, fill(184 - payload.length, 255)));
    }

    /** A payload with S: the byte p, then rows. */
    static int[] pointed(int p, int[]... rows) {
        return join(new int[] {p}, join(rows));
    }

    /** A good section of any size from 12 on that isn't used anywhere, for its byte 0. */
    static int[] idle(int size) {
        return section(join(new int[] {9, 0, 0}, fill(size - 7, 5)));
    }

    /** The head of a piece up to h; the h bytes follow it. */
    static int[] pieceHead(int kind, int n, int flags, int h) {
        return row().bytes(0, 0, 1, kind).n(16, n).bytes(0x80, flags, h).end();
    }

    /** The five bytes of a time, single bits 1. */
    static int[] time(long time) {
        return row().n(4, 2).n(3, time >> 30).n(1, 1).n(15, time >> 15).n(1, 1).n(15, time).n(1, 1).end();
    }

    /** An object with one programme in force: pieces on PIDs 101 and 103, orders on 102. */
    static StreamSplitter tuned() {
        StreamSplitter x = new StreamSplitter();
        x.plan(1, 100);
        x.addStream(0, 2, 101);
        x.addStream(0, 134, 102);
        x.addStream(0, 3, 103);
        x.writeTables(0);
        x.take();
        return x;
    }

    /** Makes a tape of so many bytes: packets of empty pieces of PID 8, the first one cut. */
    static void tapeOf(StreamSplitter x, int bytes) {
        int packets = (bytes + 187) / 188;
        for (int left = packets; left > 0; left -= 21) {
            x.writePiece(8, -1, 184 * Math.min(left, 21) - 9, 1, true);
        }
        x.drop(0, packets * 188 - bytes);
    }

    static void feed(StreamSplitter x, int[]... rows) {
        int[] all = join(rows);
        for (int i = 0; i < all.length; i += 8) {
            int n = Math.min(8, all.length - i);
            long bytes = 0;
            for (int k = 0; k < n; k++) {
                bytes |= (long) all[i + k] << 8 * k;
            }
            x.feed(n, bytes);
        }
    }

    /** Feeds and takes. */
    static void send(StreamSplitter x, int[]... rows) {
        feed(x, rows);
        x.take();
    }

    /** Compares all of the tape with a row. */
    static void tapeIs(String what, StreamSplitter x, int[]... rows) {
        int[] want = join(rows);
        Check.due(what + ": length", x.told(0), want.length);
        // Eight bytes a call: an object answers 512 calls.
        for (int i = 0; i < want.length; i += 8) {
            long bytes = 0;
            for (int k = 0; k < 8 && i + k < want.length; k++) {
                bytes |= (long) want[i + k] << 8 * k;
            }
            Check.due(what + ": bytes from " + i, x.tape(i), bytes);
        }
    }
}
