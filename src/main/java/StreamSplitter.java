import java.util.ArrayList;

/** Takes a broadcast stream of packets apart, and puts one together; README.md tells how to use it. */
public final class StreamSplitter {
    public static final int NONE = -1;

    private static final int TAPE_ROOM = 9400;
    private static final int PACKET = 188;
    private static final int PAYLOAD = 184;
    private static final int SYNC = 71;
    private static final int STUFFING = 255;
    private static final int LAST_PID = 8191;
    private static final int SECTION_ROOM = 1024;
    private static final int CHECK_BYTES = 4;
    private static final int SMALLEST_GOOD = 12;
    private static final int MOST_PROGRAMMES = 4;
    private static final int MOST_STREAMS = 4;
    private static final int MOST_ORDERS = 6;
    private static final int KEPT_PIECES = 16;
    private static final int MOST_DATA = 4000;
    private static final int ORDERS_TYPE = 134;
    private static final int LIST_TABLE = 0;
    private static final int PLAN_TABLE = 2;
    private static final int ORDER_TABLE = 252;
    private static final int SWITCH_COMMAND = 5;
    private static final long TIMES = 1L << 33;
    private static final long TIME_BITS = TIMES - 1;
    private static final long HALF_OF_TIMES = 1L << 32;
    private static final long ALL_ONES = -1;

    /* What told() counts, by the number it is asked with. */
    private static final int PACKETS = 1;
    private static final int BAD = 2;
    private static final int TWINS = 3;
    private static final int GAPS = 4;
    private static final int LOST = 5;
    private static final int GOOD = 6;
    private static final int WRONG = 7;
    private static final int GIVEN_UP = 8;
    private static final int DONE = 9;
    private static final int LIST_VERSION = 10;
    private static final int PROGRAMMES = 11;

    /* What a PID is for. */
    private static final int FOR_NOTHING = 0;
    private static final int FOR_LIST = 1;
    private static final int FOR_PLAN = 2;
    private static final int FOR_ORDERS = 3;
    private static final int FOR_PIECES = 4;

    /* The bits of writeOrder()'s how. */
    private static final int HOW_CANCEL = 1;
    private static final int HOW_AWAY = 2;
    private static final int HOW_SOON = 4;
    private static final int HOW_LONG = 8;
    private static final int HOW_BACK = 16;
    private static final int HOW_TIMED = 32;

    private final Receiver receiver;
    private final ArrayList<Draft> drafts;

    public StreamSplitter() {
        receiver = new Receiver();
        drafts = new ArrayList<>();
    }

    public int feed(int n, long bytes) throws IllegalArgumentException {
        if (n < 1 || n > 8) {
            throw new IllegalArgumentException("n is not 1 .. 8");
        }
        Row tape = receiver.tape;
        if (tape.size + n > TAPE_ROOM) {
            return NONE;
        }
        for (int k = 0; k < n; k++) {
            tape.add((int) (bytes >>> 8 * k));
        }
        return tape.size;
    }

    public int spoil(int i, int v) throws IndexOutOfBoundsException, IllegalArgumentException {
        Row tape = receiver.tape;
        if (i < 0 || i >= tape.size) {
            throw new IndexOutOfBoundsException("there is no byte i");
        }
        if (v < 0 || v > 255) {
            throw new IllegalArgumentException("v is not 0 .. 255");
        }
        int old = tape.at(i);
        tape.put(i, v);
        return old;
    }

    public long tape(int i) {
        long bytes = 0;
        for (int k = 0; k < 8; k++) {
            // Past the largest int the place wraps below 0, where the tape has nothing either.
            bytes |= (long) receiver.tape.at(i + k) << 8 * k;
        }
        return bytes;
    }

    public int drop(int i, int n) throws IndexOutOfBoundsException {
        Row tape = receiver.tape;
        if (i < 0 || n < 0 || n > tape.size - i) {
            throw new IndexOutOfBoundsException("not all these bytes are on the tape");
        }
        tape.cut(i, n);
        return tape.size;
    }

    public void seal(int from, int to) throws IndexOutOfBoundsException {
        Row tape = receiver.tape;
        if (from < 0 || from > to || to > tape.size - CHECK_BYTES) {
            throw new IndexOutOfBoundsException("not all these bytes are on the tape");
        }
        int check = tape.checkOf(from, to);
        for (int k = 0; k < CHECK_BYTES; k++) {
            tape.put(to + k, check >>> 24 - 8 * k);
        }
    }

    public int take() {
        Row tape = receiver.tape;
        int packets = 0;
        int at = 0;
        while (at < tape.size) {
            if (tape.at(at) != SYNC) {
                receiver.counts[LOST]++;
                at++;
            } else if (tape.size - at >= PACKET) {
                Lane lane = receiver.openPacket(at);
                int use = lane == null ? FOR_NOTHING : receiver.tables.useOf(lane.pid);
                if (lane != null && use == FOR_PIECES) {
                    receiver.usePieceBytes(lane, at);
                } else if (lane != null && use != FOR_NOTHING) {
                    receiver.useSectionBytes(lane, at);
                }
                packets++;
                at += PACKET;
            } else {
                break;
            }
        }
        tape.cut(0, at);
        return packets;
    }

    public int told(int what) throws IllegalArgumentException {
        if (what < 0 || what > PROGRAMMES) {
            throw new IllegalArgumentException("what is not 0 .. 11");
        }
        if (what == 0) {
            return receiver.tape.size;
        }
        if (what == LIST_VERSION) {
            return receiver.tables.listVersion;
        }
        if (what == PROGRAMMES) {
            return receiver.tables.programmes.size();
        }
        return receiver.counts[what];
    }

    public int programme(int k, int what) throws IllegalArgumentException, IndexOutOfBoundsException {
        if (what < 0 || what > 6) {
            throw new IllegalArgumentException("what is not 0 .. 6");
        }
        Programme programme = receiver.tables.programmeAt(k);
        if (programme == null) {
            throw new IndexOutOfBoundsException("there is no programme k");
        }
        switch (what) {
            case 0:
                return programme.number;
            case 1:
                return programme.pid;
            case 2:
                return programme.version;
            case 3:
                return programme.clockPid;
            case 4:
                return programme.streams.size();
            case 5:
                return programme.away ? 1 : 0;
            default:
                return programme.waiting.size();
        }
    }

    public int stream(int k, int j) throws IndexOutOfBoundsException {
        Programme programme = receiver.tables.programmeAt(k);
        if (programme == null) {
            throw new IndexOutOfBoundsException("there is no programme k");
        }
        if (j < 0 || j >= programme.streams.size()) {
            return NONE;
        }
        Stream stream = programme.streams.get(j);
        return stream.type * 65536 + stream.pid;
    }

    public long now(int k) throws IndexOutOfBoundsException {
        Programme programme = receiver.tables.programmeAt(k);
        if (programme == null) {
            throw new IndexOutOfBoundsException("there is no programme k");
        }
        return programme.now;
    }

    public long order(int k, int j, int what) throws IllegalArgumentException, IndexOutOfBoundsException {
        if (what < 0 || what > 3) {
            throw new IllegalArgumentException("what is not 0 .. 3");
        }
        Programme programme = receiver.tables.programmeAt(k);
        if (programme == null) {
            throw new IndexOutOfBoundsException("there is no programme k");
        }
        if (j < 0 || j >= programme.waiting.size()) {
            return NONE;
        }
        Order order = programme.waiting.get(j);
        switch (what) {
            case 0:
                return order.time;
            case 1:
                return order.name & 0xFFFFFFFFL;
            case 2:
                return order.away ? 1 : 0;
            default:
                return order.length;
        }
    }

    public long piece(int k, int what) throws IllegalArgumentException {
        if (what < 0 || what > 4 || k < 0) {
            throw new IllegalArgumentException("what is not 0 .. 4, or k is below 0");
        }
        Piece piece = receiver.doneBefore(k);
        if (piece == null) {
            return NONE;
        }
        switch (what) {
            case 0:
                return piece.pid;
            case 1:
                return piece.kind;
            case 2:
                return piece.time;
            case 3:
                return piece.bytes;
            default:
                return piece.sum;
        }
    }

    public long clock(int pid) throws IllegalArgumentException {
        if (isNoPid(pid)) {
            throw new IllegalArgumentException("pid is not 0 .. 8191");
        }
        Lane lane = receiver.lanes.find(pid);
        return lane == null ? NONE : lane.clock;
    }

    // ---- writing

    public int plan(int number, int pid) throws IllegalArgumentException {
        if (number < 1 || number > 65535 || isNoPid(pid)) {
            throw new IllegalArgumentException("number is not 1 .. 65535, or pid not 0 .. 8191");
        }
        if (drafts.size() >= MOST_PROGRAMMES) {
            return NONE;
        }
        drafts.add(new Draft(number, pid));
        return drafts.size();
    }

    public int addStream(int k, int type, int pid) throws IndexOutOfBoundsException, IllegalArgumentException {
        if (k < 0 || k >= drafts.size()) {
            throw new IndexOutOfBoundsException("there is no such programme");
        }
        if (type < 0 || type > 255 || isNoPid(pid)) {
            throw new IllegalArgumentException("type is not 0 .. 255, or pid not 0 .. 8191");
        }
        ArrayList<Stream> streams = drafts.get(k).streams;
        if (streams.size() >= MOST_STREAMS) {
            return NONE;
        }
        streams.add(new Stream(type, pid));
        return streams.size();
    }

    public void forget() {
        drafts.clear();
    }

    public int writeTables(int version) throws IllegalArgumentException {
        if (version < 0 || version > 31) {
            throw new IllegalArgumentException("version is not 0 .. 31");
        }
        if (hasNoRoom(1 + drafts.size())) {
            return NONE;
        }
        writerTo(0, PAYLOAD).putList(drafts, version);
        for (int k = 0; k < drafts.size(); k++) {
            Draft draft = drafts.get(k);
            writerTo(draft.pid, PAYLOAD).putPlan(draft, version);
        }
        return receiver.tape.size;
    }

    public int writePiece(int pidAndKind, long time, int n, int seed, boolean told)
            throws IllegalArgumentException {
        if (pidAndKind < 0 || pidAndKind > 2097151 || n < 0 || n > MOST_DATA || time >= TIMES) {
            throw new IllegalArgumentException("pidAndKind, n or time is out of its bounds");
        }
        int head = time < 0 ? 9 : 14;
        if (hasNoRoom((head + n + PAYLOAD - 1) / PAYLOAD)) {
            return NONE;
        }
        Writer writer = writerTo(pidAndKind & LAST_PID, head + n);
        // The size that is told counts what stands behind it, and it ends with the sixth byte.
        writer.putPieceHead(pidAndKind >> 13, time, told ? head - 6 + n : 0);
        writer.putData(n, seed);
        return receiver.tape.size;
    }

    public int writeOrder(int pid, int name, int how, long time, long lengthAndShift)
            throws IllegalArgumentException {
        if (isNoPid(pid) || how < 0 || how > 63 || time < 0 || time >= TIMES || lengthAndShift < 0) {
            throw new IllegalArgumentException("pid, how, time or lengthAndShift is out of its bounds");
        }
        if (hasNoRoom(1)) {
            return NONE;
        }
        Writer writer = writerTo(pid, PAYLOAD);
        writer.beginSection(ORDER_TABLE, 0x3000);
        writer.putOrderHead(name, lengthAndShift >>> 33);
        writer.putOrderBody(how, time, lengthAndShift & TIME_BITS);
        writer.endSection();
        return receiver.tape.size;
    }

    private static boolean isNoPid(int pid) {
        return pid < 0 || pid > LAST_PID;
    }

    private boolean hasNoRoom(int packets) {
        return receiver.tape.size + PACKET * packets > TAPE_ROOM;
    }

    private Writer writerTo(int pid, int bytes) {
        return new Writer(receiver.tape, receiver.lanes.findOrMake(pid), bytes);
    }

    /** Bytes one behind the other; numbers stand in them with the highest bit first. */
    private static final class Row {
        private final byte[] cells;
        private int size;

        Row(int room) {
            cells = new byte[room];
        }

        /** The byte at a place; 0 where there is none. */
        int at(int i) {
            return i >= 0 && i < size && i < cells.length ? cells[i] & 255 : 0;
        }

        void put(int i, int v) {
            if (i >= 0 && i < size && i < cells.length) {
                cells[i] = (byte) v;
            }
        }

        void add(int v) {
            if (size >= 0 && size < cells.length) {
                cells[size] = (byte) v;
                size++;
            }
        }

        void cut(int i, int n) {
            if (i < 0 || n < 0 || n > size - i) {
                return;
            }
            System.arraycopy(cells, i + n, cells, i, size - i - n);
            size -= n;
        }

        long bits(int from, int count) {
            long number = 0;
            for (int k = 0; k < count; k++) {
                int bit = from + k;
                number = number << 1 | at(bit >> 3) >> 7 - (bit & 7) & 1;
            }
            return number;
        }

        boolean bit(int place) {
            return (at(place >> 3) >> 7 - (place & 7) & 1) == 1;
        }

        int checkOf(int from, int to) {
            int check = -1;
            for (int i = from; i < to; i++) {
                check ^= at(i) << 24;
                for (int k = 0; k < 8; k++) {
                    check = check < 0 ? check << 1 ^ 79764919 : check << 1;
                }
            }
            return check;
        }
    }

    /** What is known of one PID. */
    private static final class Lane {
        private final int pid;
        private final Lane next;
        private int count = NONE;
        private boolean twinCame;
        private long clock = NONE;
        private int written;
        // Most PIDs never gather anything: these two are made when they are needed first.
        private Row section;
        private Piece piece;

        Lane(int pid, Lane next) {
            this.pid = pid;
            this.next = next;
        }

        boolean gathersSection() {
            return section != null && section.size > 0;
        }

        boolean gathersPiece() {
            return piece != null && piece.open;
        }
    }

    /** The lanes of all PIDs that were seen, in chains: few of the 8192 are used in a run. */
    private static final class Lanes {
        private static final int CHAINS = 256;
        private final Lane[] heads = new Lane[CHAINS];

        Lane find(int pid) {
            for (Lane lane = heads[pid & CHAINS - 1]; lane != null; lane = lane.next) {
                if (lane.pid == pid) {
                    return lane;
                }
            }
            return null;
        }

        Lane findOrMake(int pid) {
            Lane found = find(pid);
            if (found != null) {
                return found;
            }
            int chain = pid & CHAINS - 1;
            heads[chain] = new Lane(pid, heads[chain]);
            return heads[chain];
        }
    }

    /** A piece that is gathered, or one that was done. */
    private static final class Piece {
        private boolean open;
        private int pid;
        private int kind;
        private long time;
        private int bytes;
        private int sum;
        /** How many bytes are still due; NONE if the size was not told. */
        private int due;

        void begin(int ofPid, int ofKind, long atTime, int dueBytes) {
            open = true;
            pid = ofPid;
            kind = ofKind;
            time = atTime;
            bytes = 0;
            sum = 0;
            due = dueBytes;
        }

        void add(int v) {
            bytes++;
            sum = 31 * sum + v;
            if (due > 0) {
                due--;
            }
        }

        void copy(Piece other) {
            pid = other.pid;
            kind = other.kind;
            time = other.time;
            bytes = other.bytes;
            sum = other.sum;
        }
    }

    /** All that came: the tape, what is gathered from it, and what was found in it. */
    private static final class Receiver {
        private final Row tape = new Row(TAPE_ROOM);
        private final Lanes lanes = new Lanes();
        private final Tables tables = new Tables();
        private final int[] counts = new int[DONE + 1];
        private final Piece[] donePieces = new Piece[KEPT_PIECES];

        /** Looks at the head of a packet; answers its lane if the payload is to be used, else null. */
        Lane openPacket(int start) {
            counts[PACKETS]++;
            int parts = tape.at(start + 3) >> 4 & 3;
            int extra = parts >= 2 ? tape.at(start + 4) : 0;
            if (isBad(start, parts, extra)) {
                counts[BAD]++;
                return null;
            }
            int pid = (tape.at(start + 1) & 31) << 8 | tape.at(start + 2);
            Lane lane = lanes.findOrMake(pid);
            int flags = extra > 0 ? tape.at(start + 5) : 0;
            if ((flags & 16) != 0 && extra >= 7) {
                int clockBit = 8 * (start + 6);
                lane.clock = 300 * tape.bits(clockBit, 33) + tape.bits(clockBit + 39, 9);
            }
            if (pid == LAST_PID || parts == 2) {
                return null;
            }
            boolean usable = follow(lane, tape.at(start + 3) & 15, (flags & 128) != 0);
            if (usable && tape.at(start + 3) >> 6 != 0) {
                giveUp(lane);
                usable = false;
            }
            return usable ? lane : null;
        }

        private boolean isBad(int start, int parts, int extra) {
            return (tape.at(start + 1) & 128) != 0
                    || parts == 0
                    || parts == 2 && extra != 183
                    || parts == 3 && extra > 182;
        }

        /** Takes over a packet's count; answers false if the packet is a twin. */
        private boolean follow(Lane lane, int count, boolean leapTold) {
            if (count == lane.count && !leapTold && !lane.twinCame) {
                lane.twinCame = true;
                counts[TWINS]++;
                return false;
            }
            if (lane.count != NONE && count != (lane.count + 1 & 15) && !leapTold) {
                counts[GAPS]++;
                giveUp(lane);
            }
            lane.count = count;
            lane.twinCame = false;
            return true;
        }

        private boolean beginsAnew(int start) {
            return (tape.at(start + 1) & 64) != 0;
        }

        private int payloadOf(int start) {
            boolean hasExtra = (tape.at(start + 3) & 32) != 0;
            return hasExtra ? start + 5 + tape.at(start + 4) : start + 4;
        }

        private void giveUp(Lane lane) {
            if (lane.gathersSection()) {
                lane.section.size = 0;
                counts[GIVEN_UP]++;
            }
            if (lane.gathersPiece()) {
                lane.piece.open = false;
                counts[GIVEN_UP]++;
            }
        }

        private void giveUpOthers(Lane kept) {
            for (Lane head : lanes.heads) {
                for (Lane lane = head; lane != null; lane = lane.next) {
                    if (lane != kept) {
                        giveUp(lane);
                    }
                }
            }
        }

        void useSectionBytes(Lane lane, int start) {
            int from = payloadOf(start);
            int to = start + PACKET;
            if (!beginsAnew(start)) {
                if (lane.gathersSection()) {
                    growSection(lane, from, to);
                }
                return;
            }
            int first = from + 1 + tape.at(from);
            if (first > to) {
                giveUp(lane);
                return;
            }
            if (lane.gathersSection()) {
                if (growSection(lane, from + 1, first) == NONE) {
                    return;
                }
                giveUp(lane);
            }
            int at = first;
            // Each section takes a byte or more, so there are never more of them than bytes.
            for (int k = 0; k < PAYLOAD && at != NONE && at < to && tape.at(at) != STUFFING; k++) {
                at = growSection(lane, at, to);
            }
        }

        /** Answers the place behind the bytes that the section took; NONE if it is too large. */
        private int growSection(Lane lane, int from, int to) {
            if (lane.section == null) {
                lane.section = new Row(SECTION_ROOM);
            }
            Row section = lane.section;
            for (int i = from; i < to; i++) {
                section.add(tape.at(i));
                int whole = 3 + ((section.at(1) & 15) << 8 | section.at(2));
                if (section.size == 3 && whole > SECTION_ROOM) {
                    giveUp(lane);
                    return NONE;
                }
                if (section.size >= 3 && section.size >= whole) {
                    endSection(lane, section);
                    return i + 1;
                }
            }
            return to;
        }

        private void endSection(Lane lane, Row section) {
            boolean good = section.size >= SMALLEST_GOOD && section.checkOf(0, section.size) == 0;
            counts[good ? GOOD : WRONG]++;
            if (good) {
                section.size -= CHECK_BYTES;
                boolean inForce = false;
                switch (tables.useOf(lane.pid)) {
                    case FOR_LIST:
                        inForce = tables.useList(section);
                        break;
                    case FOR_PLAN:
                        inForce = tables.usePlan(section, lane.pid);
                        break;
                    case FOR_ORDERS:
                        tables.useOrder(section, lane.pid);
                        break;
                    default:
                        break;
                }
                if (inForce) {
                    giveUpOthers(lane);
                }
            }
            section.size = 0;
        }

        void usePieceBytes(Lane lane, int start) {
            int data = payloadOf(start);
            int to = start + PACKET;
            if (beginsAnew(start)) {
                endPiece(lane);
                data = beginPiece(lane, data, to);
            }
            Piece piece = lane.piece;
            if (piece == null || !piece.open) {
                return;
            }
            for (int i = data; i < to && piece.due != 0; i++) {
                piece.add(tape.at(i));
            }
            if (piece.due == 0) {
                keepDone(piece);
            }
        }

        private void endPiece(Lane lane) {
            if (lane.gathersPiece() && lane.piece.due == NONE) {
                keepDone(lane.piece);
            } else {
                giveUp(lane);
            }
        }

        /** Answers the place of the piece's first data; the packet's end if none begins. */
        private int beginPiece(Lane lane, int from, int to) {
            int extra = tape.at(from + 8);
            int data = from + 9 + extra;
            if (data > to || tape.bits(8 * from, 24) != 1 || tape.at(from + 6) >> 6 != 2) {
                return to;
            }
            int told = (int) tape.bits(8 * (from + 4), 16);
            int due = told == 0 ? NONE : told - 3 - extra;
            if (told != 0 && due < 0) {
                return to;
            }
            long time = tape.at(from + 7) >> 6 >= 2 && extra >= 5 ? timeAt(from + 9) : NONE;
            if (lane.piece == null) {
                lane.piece = new Piece();
            }
            lane.piece.begin(lane.pid, tape.at(from + 3), time, due);
            if (time != NONE) {
                tables.moveNow(lane.pid, time);
            }
            return data;
        }

        private long timeAt(int place) {
            int bit = 8 * place;
            return tape.bits(bit + 4, 3) << 30 | tape.bits(bit + 8, 15) << 15 | tape.bits(bit + 24, 15);
        }

        private void keepDone(Piece piece) {
            piece.open = false;
            int place = counts[DONE] & KEPT_PIECES - 1;
            if (donePieces[place] == null) {
                donePieces[place] = new Piece();
            }
            donePieces[place].copy(piece);
            counts[DONE]++;
        }

        /** The piece that was done k before the latest one; null if it isn't kept. */
        Piece doneBefore(int k) {
            if (k < 0 || k >= KEPT_PIECES || k >= counts[DONE]) {
                return null;
            }
            return donePieces[counts[DONE] - 1 - k & KEPT_PIECES - 1];
        }
    }

    private static final class Stream {
        private final int type;
        private final int pid;

        Stream(int type, int pid) {
            this.type = type;
            this.pid = pid;
        }
    }

    /** An order to switch away or back; its length is NONE unless it is long and back. */
    private static final class Order {
        private final long time;
        private final int name;
        private final boolean away;
        private final long length;

        Order(long time, int name, boolean away, long length) {
            this.time = time;
            this.name = name;
            this.away = away;
            this.length = length;
        }
    }

    /** A programme of the list that is in force. */
    private static final class Programme {
        private final int number;
        private final int pid;
        private int version = NONE;
        private int clockPid = NONE;
        // A plan brings streams of its own, so copies of a programme may share these.
        private ArrayList<Stream> streams = new ArrayList<>();
        private boolean away;
        private long now = NONE;
        private final ArrayList<Order> waiting = new ArrayList<>();

        Programme(int number, int pid) {
            this.number = number;
            this.pid = pid;
        }

        Programme copied() {
            Programme copy = new Programme(number, pid);
            copy.version = version;
            copy.clockPid = clockPid;
            copy.streams = streams;
            copy.away = away;
            copy.now = now;
            for (int j = 0; j < waiting.size(); j++) {
                copy.waiting.add(waiting.get(j));
            }
            return copy;
        }

        /** Without a plan there are no streams, so this finds none then. */
        Stream streamWith(int streamPid) {
            for (int j = 0; j < streams.size(); j++) {
                if (streams.get(j).pid == streamPid) {
                    return streams.get(j);
                }
            }
            return null;
        }

        void cancel(int name) {
            for (int j = waiting.size() - 1; j >= 0; j--) {
                if (waiting.get(j).name == name) {
                    waiting.remove(j);
                }
            }
        }

        void keep(Order order) {
            for (int j = 0; j < waiting.size(); j++) {
                if (waiting.get(j).name == order.name) {
                    waiting.set(j, order);
                    return;
                }
            }
            if (waiting.size() < MOST_ORDERS) {
                waiting.add(order);
            }
        }

        /** Obeys an order that doesn't wait (any more); its time is NONE if it came without a NOW. */
        void obey(Order order) {
            away = order.away;
            if (order.length != NONE && order.time != NONE && waiting.size() < MOST_ORDERS) {
                long end = order.time + order.length & TIME_BITS;
                waiting.add(new Order(end, order.name, !order.away, NONE));
            }
        }

        void obeyDue() {
            // Each order that waits can bring one more, which brings none.
            for (int k = 0; k < 2 * MOST_ORDERS; k++) {
                int j = firstDue();
                if (j < 0 || j >= waiting.size()) {
                    return;
                }
                obey(waiting.remove(j));
            }
        }

        private int firstDue() {
            for (int j = 0; j < waiting.size(); j++) {
                if ((now - waiting.get(j).time & TIME_BITS) < HALF_OF_TIMES) {
                    return j;
                }
            }
            return NONE;
        }
    }

    /** The list and the plans that are in force. */
    private static final class Tables {
        private int listVersion = NONE;
        private ArrayList<Programme> programmes = new ArrayList<>();

        Programme programmeAt(int k) {
            return k >= 0 && k < programmes.size() ? programmes.get(k) : null;
        }

        private Programme firstWith(int number, int pid) {
            for (int k = 0; k < programmes.size(); k++) {
                Programme programme = programmes.get(k);
                if (programme.number == number && programme.pid == pid) {
                    return programme;
                }
            }
            return null;
        }

        private Programme ownerOf(int streamPid) {
            for (int k = 0; k < programmes.size(); k++) {
                if (programmes.get(k).streamWith(streamPid) != null) {
                    return programmes.get(k);
                }
            }
            return null;
        }

        int useOf(int pid) {
            if (pid == 0) {
                return FOR_LIST;
            }
            for (int k = 0; k < programmes.size(); k++) {
                if (programmes.get(k).pid == pid) {
                    return FOR_PLAN;
                }
            }
            Programme owner = ownerOf(pid);
            Stream stream = owner == null ? null : owner.streamWith(pid);
            if (stream == null) {
                return FOR_NOTHING;
            }
            return stream.type == ORDERS_TYPE ? FOR_ORDERS : FOR_PIECES;
        }

        private static boolean isTable(Row section, int table) {
            return section.at(0) == table && section.bit(47) && section.bits(48, 16) == 0;
        }

        private static int versionOf(Row section) {
            return section.at(5) >> 1 & 31;
        }

        /** Answers whether the list came into force. */
        boolean useList(Row section) {
            int version = versionOf(section);
            if (!isTable(section, LIST_TABLE) || version == listVersion || section.size % 4 != 0) {
                return false;
            }
            ArrayList<Programme> listed = new ArrayList<>();
            for (int i = 8; i < section.size && listed.size() < MOST_PROGRAMMES; i += 4) {
                int number = (int) section.bits(8 * i, 16);
                int pid = (int) section.bits(8 * i + 19, 13);
                if (number != 0) {
                    Programme old = firstWith(number, pid);
                    listed.add(old == null ? new Programme(number, pid) : old.copied());
                }
            }
            programmes = listed;
            listVersion = version;
            return true;
        }

        /** Answers whether the plan came into force. */
        boolean usePlan(Row section, int pid) {
            if (!isTable(section, PLAN_TABLE)) {
                return false;
            }
            Programme programme = firstWith((int) section.bits(24, 16), pid);
            if (programme == null || programme.version == versionOf(section)) {
                return false;
            }
            ArrayList<Stream> streams = streamsOf(section);
            if (streams == null) {
                return false;
            }
            programme.version = versionOf(section);
            programme.clockPid = (int) section.bits(67, 13);
            programme.streams = streams;
            return true;
        }

        /** The streams of a plan; null if there are too many or they don't end with the section. */
        private static ArrayList<Stream> streamsOf(Row section) {
            ArrayList<Stream> streams = new ArrayList<>();
            int at = 12 + (int) section.bits(84, 12);
            while (at + 5 <= section.size && streams.size() < MOST_STREAMS) {
                streams.add(new Stream(section.at(at), (int) section.bits(8 * at + 11, 13)));
                at += 5 + (int) section.bits(8 * at + 28, 12);
            }
            return at == section.size ? streams : null;
        }

        void useOrder(Row section, int pid) {
            Programme programme = ownerOf(pid);
            if (programme == null || !isOrder(section)) {
                return;
            }
            if (section.bit(144)) {
                programme.cancel((int) section.bits(112, 32));
            } else {
                useSwitch(section, programme);
            }
        }

        private static boolean isOrder(Row section) {
            return section.at(0) == ORDER_TABLE && section.at(3) == 0 && !section.bit(32)
                    && section.at(13) == SWITCH_COMMAND && section.size >= 19;
        }

        private static void useSwitch(Row section, Programme programme) {
            boolean lasts = section.bit(154);
            boolean soon = section.bit(155);
            boolean timed = !soon && section.bit(160);
            int lengthAt = soon ? 20 : timed ? 25 : 21;
            int end = (lasts ? lengthAt + 5 : lengthAt) + 4;
            // A bit that the section has not reads as 0; the end found by it is not in the section either.
            if (!section.bit(153) || end > section.size) {
                return;
            }
            int name = (int) section.bits(112, 32);
            boolean returns = lasts && section.bit(8 * lengthAt);
            long length = returns ? section.bits(8 * lengthAt + 7, 33) : NONE;
            boolean away = section.bit(152);
            if (timed) {
                long time = section.bits(167, 33) + section.bits(39, 33) & TIME_BITS;
                programme.keep(new Order(time, name, away, length));
            } else {
                programme.obey(new Order(programme.now, name, away, length));
            }
        }

        void moveNow(int streamPid, long time) {
            Programme programme = ownerOf(streamPid);
            if (programme != null) {
                programme.now = time;
                programme.obeyDue();
            }
        }
    }

    /** A programme that is to be written. */
    private static final class Draft {
        private final int number;
        private final int pid;
        private final ArrayList<Stream> streams = new ArrayList<>();

        Draft(int number, int pid) {
            this.number = number;
            this.pid = pid;
        }

        int clockPid() {
            return streams.isEmpty() ? LAST_PID : streams.get(0).pid;
        }
    }

    /** Puts a row of bytes into packets of one PID behind the tape; there is room for them. */
    private static final class Writer {
        private final Row tape;
        private final Lane lane;
        private int left;
        private int roomInPacket;
        private boolean begun;
        private int sectionStart;

        Writer(Row tape, Lane lane, int bytes) {
            this.tape = tape;
            this.lane = lane;
            left = bytes;
        }

        private void putNumber(long number, int bytes) {
            for (int k = bytes - 1; k >= 0; k--) {
                if (roomInPacket == 0) {
                    beginPacket();
                }
                tape.add((int) (number >>> 8 * k));
                roomInPacket--;
                left--;
            }
        }

        private void beginPacket() {
            roomInPacket = Math.min(left, PAYLOAD);
            int less = PAYLOAD - roomInPacket;
            tape.add(SYNC);
            tape.add((begun ? 0 : 64) | lane.pid >> 8);
            tape.add(lane.pid);
            tape.add((less > 0 ? 48 : 16) | lane.written & 15);
            lane.written++;
            begun = true;
            if (less > 0) {
                tape.add(less - 1);
            }
            for (int k = 1; k < less; k++) {
                tape.add(k == 1 ? 0 : STUFFING);
            }
        }

        /** All sections that are written fit into one packet. */
        void beginSection(int table, int topBits) {
            putNumber(0, 1);
            sectionStart = tape.size;
            putNumber(table, 1);
            // The size is put in when the section ends.
            putNumber(topBits, 2);
        }

        void endSection() {
            // In one packet the size needs no more than the last eight of its bits.
            tape.put(sectionStart + 2, tape.size - sectionStart - 3 + CHECK_BYTES);
            putNumber(tape.checkOf(sectionStart, tape.size), CHECK_BYTES);
            for (int k = left; k > 0; k--) {
                putNumber(STUFFING, 1);
            }
        }

        private void beginTable(int table, int number, int version) {
            beginSection(table, 0xB000);
            putNumber(number, 2);
            putNumber(0xC1 | version << 1, 1);
            putNumber(0, 2);
        }

        private void putPid(int pid) {
            putNumber(0xE000 | pid, 2);
        }

        /** A length n that is 0. */
        private void putNoMore() {
            putNumber(0xF000, 2);
        }

        void putList(ArrayList<Draft> drafts, int version) {
            beginTable(LIST_TABLE, 0xFFFF, version);
            for (int k = 0; k < drafts.size(); k++) {
                putNumber(drafts.get(k).number, 2);
                putPid(drafts.get(k).pid);
            }
            endSection();
        }

        void putPlan(Draft draft, int version) {
            beginTable(PLAN_TABLE, draft.number, version);
            putPid(draft.clockPid());
            putNoMore();
            for (int j = 0; j < draft.streams.size(); j++) {
                putNumber(draft.streams.get(j).type, 1);
                putPid(draft.streams.get(j).pid);
                putNoMore();
            }
            endSection();
        }

        void putPieceHead(int kind, long time, int toldSize) {
            putNumber(1, 3);
            putNumber(kind, 1);
            putNumber(toldSize, 2);
            putNumber(0x80, 1);
            if (time < 0) {
                putNumber(0, 2);
                return;
            }
            putNumber(0x8005, 2);
            putNumber(0x20 | time >> 30 << 1 | 1, 1);
            putNumber((time >> 15 & 0x7FFF) << 1 | 1, 2);
            putNumber((time & 0x7FFF) << 1 | 1, 2);
        }

        void putData(int n, int seed) {
            int x = seed;
            for (int k = 0; k < n; k++) {
                x = 1103515245 * x + 12345;
                putNumber(x >> 16, 1);
            }
        }

        void putOrderHead(int name, long shift) {
            putNumber(0, 1);
            putFlagAndTime(false, shift);
            putNumber(ALL_ONES, 4);
            putNumber(SWITCH_COMMAND, 1);
            putNumber(name, 4);
        }

        void putOrderBody(int how, long time, long length) {
            if ((how & HOW_CANCEL) != 0) {
                putNumber(0xFF, 1);
                return;
            }
            boolean lasts = (how & HOW_LONG) != 0;
            boolean soon = (how & HOW_SOON) != 0;
            putNumber(0x7F, 1);
            putNumber(((how & HOW_AWAY) != 0 ? 0x80 : 0) | (lasts ? 0x20 : 0) | (soon ? 0x10 : 0) | 0x4F, 1);
            if (!soon && (how & HOW_TIMED) != 0) {
                putFlagAndTime(true, time);
            } else if (!soon) {
                putNumber(0x7F, 1);
            }
            if (lasts) {
                putFlagAndTime((how & HOW_BACK) != 0, length);
            }
            putNumber(ALL_ONES, 4);
        }

        /** A bit, six bits that mean nothing, and 33 bits. */
        private void putFlagAndTime(boolean flag, long time) {
            putNumber((flag ? 1L << 39 : 0) | 63L << 33 | time, 5);
        }
    }
}
