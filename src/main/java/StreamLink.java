/**
 * Two ends that speak over two paths: a connection is made by four packets, messages go in three
 * streams word by word, are acknowledged with gaps, and are sent again when they seem lost.
 */
public final class StreamLink {
    public static final int NONE = -1;

    private static final int CLIENT = 0;
    private static final int SERVER = 1;
    private static final int ENDS = 2;
    private static final int PATHS = 2;
    private static final int STREAMS = 3;
    private static final int MOST_CALLS = 512;

    private static final int LEAST_ROOM = 2;
    private static final int MOST_ROOM = 16;
    private static final int LEAST_LIMIT = 2;
    private static final int MOST_LIMIT = 9;

    private static final int CLOSED = 0;
    private static final int WAITING = 1;
    private static final int ECHOED = 2;
    private static final int UP = 3;

    private static final int TOO_MANY_ERRORS = 1;
    private static final int NO_ANSWER = 2;
    private static final int ABORTED = 3;

    private static final int INIT = 0;
    private static final int INITACK = 1;
    private static final int ECHO = 2;
    private static final int ECHOACK = 3;
    private static final int DATA = 4;
    private static final int SACK = 5;
    private static final int BEAT = 6;
    private static final int BEATACK = 7;
    private static final int ABORT = 8;

    private static final int GONE = 0;
    private static final int NEW = 1;
    private static final int OUT = 2;
    private static final int MARKED = 3;
    private static final int HELD = 4;

    private static final int ROW_PACKETS = 8;
    private static final int MESSAGE_WORDS = 4;
    private static final int MOST_TO_SEND = 24;
    private static final int GAP_BITS = 16;
    /** A power of two above what can lie between the oldest waiting word and the furthest one. */
    private static final int WORD_SLOTS = 32;

    private static final int TRY_TICKS = 3;
    private static final int FIRST_RATE = 2;
    private static final int MOST_RATE = 8;
    private static final int FIRST_WAIT = 3;
    private static final int MOST_WAIT = 24;
    private static final int STRIKES = 3;
    private static final int PATH_ERRORS = 3;
    private static final int BEAT_TICKS = 8;

    private static final int COOKIE_TICKS = 20;
    private static final int MIX_START = -2128831035;
    private static final int MIX_FACTOR = 16777619;
    private static final int SEAL_END = 7;

    private final int key;
    private final End[] ends;
    private final TagList openedTags;
    private final TagList servedTags;
    private int now;

    public StreamLink(int room, int limit, int key) {
        int roomWithin = Math.max(LEAST_ROOM, Math.min(MOST_ROOM, room));
        int limitWithin = Math.max(LEAST_LIMIT, Math.min(MOST_LIMIT, limit));
        this.key = key;
        ends = new End[ENDS];
        for (int i = 0; i < ENDS; i++) {
            ends[i] = new End(roomWithin, limitWithin);
        }
        openedTags = new TagList();
        servedTags = new TagList();
        now = 0;
    }

    public boolean open(int tag) {
        End client = ends[CLIENT];
        if (client.state != CLOSED || tag == 0 || !openedTags.add(tag)) {
            return false;
        }
        client.startOpening(tag, now);
        return true;
    }

    public boolean send(int end, int stream, boolean unordered, int v, int n) {
        if (!isEnd(end) || !isStream(stream) || n < 1 || n > MESSAGE_WORDS) {
            return false;
        }
        End sender = ends[end];
        if (sender.state != UP || sender.outbox.count() + n > MOST_TO_SEND) {
            return false;
        }
        sender.outbox.addMessage(stream, unordered, v, n);
        sender.sendWhatItMay(now);
        return true;
    }

    public int deliver(int end, int path) {
        if (!isEnd(end) || !isPath(path)) {
            return NONE;
        }
        Row row = ends[end].paths[path].row;
        if (row.count == 0) {
            return NONE;
        }
        // What arrives is answered in the other end's rows, so this packet is not written over.
        Packet packet = row.oldest();
        row.removeOldest();
        int at = ENDS - 1 - end;
        End target = ends[at];
        if (packet.kind <= ECHOACK) {
            takeMaking(at, path, packet);
        } else if (target.state == UP && packet.tag == target.ownTag) {
            target.takeWhenUp(path, packet, now);
        }
        return packet.kind;
    }

    public boolean alter(int end, int path, boolean twice) {
        if (!isEnd(end) || !isPath(path)) {
            return false;
        }
        Row row = ends[end].paths[path].row;
        if (row.count == 0 || (twice && row.isFull())) {
            return false;
        }
        if (twice) {
            row.addNew().copyFrom(row.oldest());
        } else {
            row.removeOldest();
        }
        return true;
    }

    public boolean forge(int end, int kind, int tag, int a, int b, int c, int d) {
        if (!isEnd(end) || (kind != INIT && kind != ECHO && kind != ABORT)) {
            return false;
        }
        if (kind != INIT && tag == ends[end].ownTag) {
            return false;
        }
        End from = ends[ENDS - 1 - end];
        if (from.paths[0].row.isFull()) {
            return false;
        }
        Packet packet = from.post(0, kind);
        packet.tag = kind == INIT ? 0 : tag;
        packet.newTag = a;
        packet.cookie.set(a, b, c, d);
        return true;
    }

    public int tick() {
        now++;
        for (int i = 0; i < ENDS; i++) {
            ends[i].passTick(now);
        }
        return now;
    }

    public int read(int end, int stream) {
        if (!isEnd(end) || !isStream(stream)) {
            return 0;
        }
        return ends[end].inbox.readyList.takeFirst(stream);
    }

    public int ready(int end, int stream) {
        if (!isEnd(end) || !isStream(stream)) {
            return NONE;
        }
        return ends[end].inbox.readyList.countOf(stream);
    }

    public int length(int end, int stream) {
        if (!isEnd(end) || !isStream(stream)) {
            return 0;
        }
        return ends[end].inbox.readyList.firstLength(stream);
    }

    public boolean abort(int end) {
        if (!isEnd(end) || ends[end].state == CLOSED) {
            return false;
        }
        if (ends[end].state == UP) {
            ends[end].postAbort();
        }
        ends[end].close(ABORTED);
        return true;
    }

    public boolean primary(int end, int path) {
        if (!isEnd(end) || !isPath(path) || ends[end].state != UP) {
            return false;
        }
        ends[end].primaryPath = path;
        return true;
    }

    public int about(int end, int what) {
        return isEnd(end) ? ends[end].tell(what) : NONE;
    }

    public int path(int end, int path, int what) {
        return isEnd(end) && isPath(path) ? ends[end].tellOfPath(path, what) : NONE;
    }

    public int waiting(int end, int path) {
        return isEnd(end) && isPath(path) ? ends[end].paths[path].row.count : NONE;
    }

    public int word(int end, int number) {
        return isEnd(end) ? ends[end].outbox.stateOf(number) : GONE;
    }

    private static boolean isEnd(int end) {
        return end >= 0 && end < ENDS;
    }

    private static boolean isPath(int path) {
        return path >= 0 && path < PATHS;
    }

    private static boolean isStream(int stream) {
        return stream >= 0 && stream < STREAMS;
    }

    private static boolean isSet(int bits, int k) {
        return ((bits >> k) & 1) == 1;
    }

    private static int mixIn(int h, int x) {
        int product = (h ^ x) * MIX_FACTOR;
        return product ^ (product >>> 15);
    }

    private int serverTagFor(int clientTag) {
        int mixedKey = mixIn(MIX_START, key);
        return clientTag == mixedKey ? mixedKey : clientTag ^ mixedKey;
    }

    private int sealOf(int clientTag, int serverTag, int tick) {
        int h = mixIn(MIX_START, key);
        h = mixIn(h, clientTag);
        h = mixIn(h, serverTag);
        h = mixIn(h, tick);
        return mixIn(h, SEAL_END);
    }

    /** Each of the four packets that make a connection means something at one end alone. */
    private void takeMaking(int at, int path, Packet packet) {
        if (packet.kind == INIT && at == SERVER) {
            answerInit(path, packet.newTag);
        } else if (packet.kind == INITACK && at == CLIENT) {
            ends[CLIENT].takeInitAck(path, packet, now);
        } else if (packet.kind == ECHO && at == SERVER) {
            answerEcho(path, packet);
        } else if (packet.kind == ECHOACK && at == CLIENT) {
            ends[CLIENT].takeEchoAck(packet);
        }
    }

    private void answerInit(int path, int clientTag) {
        if (clientTag == 0) {
            return;
        }
        int serverTag = serverTagFor(clientTag);
        Packet answer = ends[SERVER].post(path, INITACK);
        answer.tag = clientTag;
        answer.newTag = serverTag;
        answer.cookie.set(clientTag, serverTag, now, sealOf(clientTag, serverTag, now));
    }

    private void answerEcho(int path, Packet echo) {
        Cookie cookie = echo.cookie;
        if (echo.tag != cookie.serverTag || !isGenuine(cookie)) {
            return;
        }
        End server = ends[SERVER];
        if (server.state == CLOSED && servedTags.add(cookie.serverTag)) {
            server.ownTag = cookie.serverTag;
            server.otherTag = cookie.clientTag;
            server.comeUp();
        }
        if (server.ownTag == cookie.serverTag && server.otherTag == cookie.clientTag) {
            server.post(path, ECHOACK);
        }
    }

    private boolean isGenuine(Cookie cookie) {
        // A forged tick may be any int: as a long, its age does not wrap.
        long age = (long) now - cookie.tick;
        return cookie.seal == sealOf(cookie.clientTag, cookie.serverTag, cookie.tick)
            && cookie.clientTag != 0
            && cookie.serverTag == serverTagFor(cookie.clientTag)
            && age >= 0 && age <= COOKIE_TICKS;
    }

    /** Tags that were used once and may not be used again. */
    private static final class TagList {
        private final int[] tags = new int[MOST_CALLS];
        private int count = 0;

        /** False if the tag was there before; a full list takes none, but 512 calls can't fill it. */
        boolean add(int tag) {
            for (int i = 0; i < count; i++) {
                if (tags[i] == tag) {
                    return false;
                }
            }
            if (count >= MOST_CALLS) {
                return false;
            }
            tags[count] = tag;
            count++;
            return true;
        }
    }

    private static final class Cookie {
        int clientTag;
        int serverTag;
        int tick;
        int seal;

        void set(int newClientTag, int newServerTag, int newTick, int newSeal) {
            clientTag = newClientTag;
            serverTag = newServerTag;
            tick = newTick;
            seal = newSeal;
        }

        void copyFrom(Cookie from) {
            clientTag = from.clientTag;
            serverTag = from.serverTag;
            tick = from.tick;
            seal = from.seal;
        }
    }

    /** A word as it travels in DATA. */
    private static final class Word {
        int number;
        int value;
        int stream;
        int order;
        boolean first;
        boolean last;
        boolean unordered;

        void copyFrom(Word from) {
            number = from.number;
            value = from.value;
            stream = from.stream;
            order = from.order;
            first = from.first;
            last = from.last;
            unordered = from.unordered;
        }
    }

    /** A packet of any kind; what its kind does not have holds nothing of meaning. */
    private static final class Packet {
        int kind;
        int tag;
        /** The tag that an INIT or INITACK tells. */
        int newTag;
        /** Of an INITACK or ECHO. */
        final Cookie cookie = new Cookie();
        /** Of DATA. */
        final Word word = new Word();
        /** Of a SACK: the number, gaps and window. */
        int number;
        int gaps;
        int window;
        /** Of a BEAT or BEATACK. */
        int tick;

        void copyFrom(Packet from) {
            kind = from.kind;
            tag = from.tag;
            newTag = from.newTag;
            cookie.copyFrom(from.cookie);
            word.copyFrom(from.word);
            number = from.number;
            gaps = from.gaps;
            window = from.window;
            tick = from.tick;
        }
    }

    /** Packets under way, made once and written over, so that a call makes no objects. */
    private static final class Row {
        private final Packet[] packets = new Packet[ROW_PACKETS];
        private final Packet lost = new Packet();
        private int start = 0;
        int count = 0;

        Row() {
            for (int i = 0; i < ROW_PACKETS; i++) {
                packets[i] = new Packet();
            }
        }

        boolean isFull() {
            return count >= ROW_PACKETS;
        }

        Packet oldest() {
            return packets[start];
        }

        void removeOldest() {
            if (count > 0) {
                start = (start + 1) % ROW_PACKETS;
                count--;
            }
        }

        /** A packet at the end of the row, to be filled; one that is lost if the row is full. */
        Packet addNew() {
            if (isFull()) {
                return lost;
            }
            Packet added = packets[(start + count) % ROW_PACKETS];
            count++;
            return added;
        }
    }

    /** What an end knows of a path, and the row of packets that it has sent there. */
    private static final class Path {
        final Row row = new Row();
        int rate;
        int wait;
        int errors;
        boolean active;
        boolean timerRuns;
        int timerDue;
        boolean beatOpen;
        int beatTick;
        /** Whether the SACK that is looked at now has told of a word that this path brought. */
        boolean good;

        void reset() {
            rate = FIRST_RATE;
            wait = FIRST_WAIT;
            errors = 0;
            active = true;
            timerRuns = false;
            timerDue = 0;
            beatOpen = false;
            beatTick = 0;
            good = false;
        }

        void startTimer(int now) {
            timerRuns = true;
            timerDue = now + wait;
        }

        void slowDown() {
            rate = 1;
            wait = Math.min(MOST_WAIT, wait * 2);
            timerRuns = false;
        }

        void reward() {
            errors = 0;
            wait = FIRST_WAIT;
            rate = Math.min(MOST_RATE, rate + 1);
            active = true;
        }
    }

    /** A word to send, and how far it has come. */
    private static final class SentWord {
        final Word word = new Word();
        int state;
        /** The path that it was sent on last; of no meaning while it is new. */
        int lastPath;
        int strikes;
    }

    /** The words to send that are not gone: their numbers have no gap, so a ring holds them. */
    private static final class Outbox {
        private final SentWord[] ring = new SentWord[MOST_TO_SEND];
        private final int[] nextOrders = new int[STREAMS];
        /** All numbers below are gone: the latest SACK that was looked at told the one before it. */
        int firstNumber;
        int nextNumber;
        /** The other end's window. */
        int window;

        Outbox() {
            for (int i = 0; i < MOST_TO_SEND; i++) {
                ring[i] = new SentWord();
            }
            reset(0);
        }

        void reset(int newWindow) {
            firstNumber = 1;
            nextNumber = 1;
            window = newWindow;
            for (int i = 0; i < STREAMS; i++) {
                nextOrders[i] = 0;
            }
        }

        int count() {
            return nextNumber - firstNumber;
        }

        boolean has(int number) {
            return number >= firstNumber && number < nextNumber;
        }

        SentWord at(int number) {
            return ring[Math.floorMod(number, MOST_TO_SEND)];
        }

        int stateOf(int number) {
            return has(number) ? at(number).state : GONE;
        }

        void addMessage(int stream, boolean unordered, int value, int words) {
            int order = unordered ? 0 : nextOrders[stream];
            for (int i = 0; i < words; i++) {
                SentWord sent = at(nextNumber);
                sent.word.number = nextNumber;
                sent.word.value = value + i;
                sent.word.stream = stream;
                sent.word.order = order;
                sent.word.first = i == 0;
                sent.word.last = i == words - 1;
                sent.word.unordered = unordered;
                sent.state = NEW;
                sent.lastPath = 0;
                sent.strikes = 0;
                nextNumber++;
            }
            if (!unordered) {
                nextOrders[stream]++;
            }
        }

        /** The number of the first word that is new or marked, or NONE. */
        int firstToSend() {
            for (int n = firstNumber; n < nextNumber; n++) {
                int state = at(n).state;
                if (state == NEW || state == MARKED) {
                    return n;
                }
            }
            return NONE;
        }

        int countOut(int path) {
            int found = 0;
            for (int n = firstNumber; n < nextNumber; n++) {
                if (at(n).state == OUT && at(n).lastPath == path) {
                    found++;
                }
            }
            return found;
        }

        int countOutOrMarked() {
            int found = 0;
            for (int n = firstNumber; n < nextNumber; n++) {
                if (at(n).state == OUT || at(n).state == MARKED) {
                    found++;
                }
            }
            return found;
        }

        void markAllOut(int path) {
            for (int n = firstNumber; n < nextNumber; n++) {
                if (at(n).state == OUT && at(n).lastPath == path) {
                    at(n).state = MARKED;
                }
            }
        }
    }

    /** Whole messages that wait to be read, those of all streams in the order they became ready. */
    private static final class ReadyList {
        // Every message has cost a delivery, so 512 calls can't fill these.
        private final int[] streams = new int[MOST_CALLS];
        private final int[] firstWords = new int[MOST_CALLS];
        private final int[] lengths = new int[MOST_CALLS];
        private int count = 0;
        /** How many words all of them have. */
        int words = 0;

        void add(int stream, int firstWord, int length) {
            if (count < MOST_CALLS) {
                streams[count] = stream;
                firstWords[count] = firstWord;
                lengths[count] = length;
                count++;
                words += length;
            }
        }

        int countOf(int stream) {
            int found = 0;
            for (int i = 0; i < count; i++) {
                if (streams[i] == stream) {
                    found++;
                }
            }
            return found;
        }

        int firstLength(int stream) {
            int index = firstOf(stream);
            return index == NONE ? 0 : lengths[index];
        }

        int takeFirst(int stream) {
            int index = firstOf(stream);
            if (index == NONE) {
                return 0;
            }
            int firstWord = firstWords[index];
            words -= lengths[index];
            count--;
            for (int i = index; i < count; i++) {
                streams[i] = streams[i + 1];
                firstWords[i] = firstWords[i + 1];
                lengths[i] = lengths[i + 1];
            }
            return firstWord;
        }

        private int firstOf(int stream) {
            for (int i = 0; i < count; i++) {
                if (streams[i] == stream) {
                    return i;
                }
            }
            return NONE;
        }
    }

    /** What has come to an end: words whose message is not ready yet, and ready messages. */
    private static final class Inbox {
        final ReadyList readyList = new ReadyList();
        private final int room;
        private final Word[] slots = new Word[WORD_SLOTS];
        /** Whether the word in a slot waits for its message to become ready. */
        private final boolean[] unready = new boolean[WORD_SLOTS];
        private final int[] nextOrders = new int[STREAMS];
        private int unreadyWords;
        /** The latest number received without a gap. */
        int latest;

        Inbox(int room) {
            this.room = room;
            for (int i = 0; i < WORD_SLOTS; i++) {
                slots[i] = new Word();
            }
            reset();
        }

        /** Ready messages outlive the connection that brought them. */
        void reset() {
            latest = 0;
            unreadyWords = 0;
            for (int i = 0; i < WORD_SLOTS; i++) {
                slots[i].number = 0;
                unready[i] = false;
            }
            for (int i = 0; i < STREAMS; i++) {
                nextOrders[i] = 0;
            }
        }

        int kept() {
            return unreadyWords + readyList.words;
        }

        int window() {
            return Math.max(0, room - kept());
        }

        int gaps() {
            int bits = 0;
            for (int k = 0; k < GAP_BITS; k++) {
                if (has(latest + 1 + k)) {
                    bits |= 1 << k;
                }
            }
            return bits;
        }

        void take(Word word) {
            if (isDropped(word.number)) {
                return;
            }
            int slot = slotOf(word.number);
            slots[slot].copyFrom(word);
            unready[slot] = true;
            unreadyWords++;
            makeReady();
            for (int k = 0; k < GAP_BITS && has(latest + 1); k++) {
                latest++;
            }
        }

        private boolean isDropped(int number) {
            if (number < 1 || number > latest + GAP_BITS || has(number)) {
                return true;
            }
            return kept() >= room && number != latest + 1;
        }

        private static int slotOf(int number) {
            return number & (WORD_SLOTS - 1);
        }

        private boolean has(int number) {
            return number <= latest || slots[slotOf(number)].number == number;
        }

        private void makeReady() {
            // Orders grow with the numbers, so a message that becomes ready never lets one with
            // lower numbers go: one way up finds all that may, the lowest first.
            for (int n = latest + 1 - MESSAGE_WORDS; n <= latest + GAP_BITS; n++) {
                int length = wholeLength(n);
                if (length > 0 && mayBeReady(slots[slotOf(n)])) {
                    moveToReady(n, length);
                }
            }
        }

        /** How many words the message has that begins with this number; 0 if it is not whole. */
        private int wholeLength(int number) {
            if (!slots[slotOf(number)].first) {
                return 0;
            }
            for (int i = 0; i < MESSAGE_WORDS; i++) {
                int slot = slotOf(number + i);
                if (!unready[slot] || slots[slot].number != number + i) {
                    return 0;
                }
                if (slots[slot].last) {
                    return i + 1;
                }
            }
            return 0;
        }

        private boolean mayBeReady(Word first) {
            return first.unordered || first.order == nextOrders[first.stream];
        }

        private void moveToReady(int number, int length) {
            Word first = slots[slotOf(number)];
            readyList.add(first.stream, first.value, length);
            if (!first.unordered) {
                nextOrders[first.stream]++;
            }
            for (int i = 0; i < length; i++) {
                unready[slotOf(number + i)] = false;
            }
            unreadyWords -= length;
        }
    }

    /** One end: its connection, its view of both paths, what it sends and what it has got. */
    private static final class End {
        final Path[] paths = new Path[PATHS];
        final Outbox outbox = new Outbox();
        final Inbox inbox;
        int state = CLOSED;
        int ownTag = 0;
        int otherTag = 0;
        int primaryPath = 0;
        private final int room;
        private final int limit;
        private final Cookie cookie = new Cookie();
        private int report = 0;
        private int allErrors = 0;
        private int tries = 0;
        private int tryDue = 0;

        End(int room, int limit) {
            this.room = room;
            this.limit = limit;
            inbox = new Inbox(room);
            for (int i = 0; i < PATHS; i++) {
                paths[i] = new Path();
            }
        }

        void startOpening(int tag, int now) {
            state = WAITING;
            ownTag = tag;
            startTries(now);
            postOpening(0);
        }

        void comeUp() {
            state = UP;
            outbox.reset(room);
            inbox.reset();
            for (int i = 0; i < PATHS; i++) {
                paths[i].reset();
            }
            primaryPath = 0;
            allErrors = 0;
        }

        void close(int why) {
            state = CLOSED;
            report = why;
            ownTag = 0;
            otherTag = 0;
            outbox.reset(0);
            inbox.reset();
        }

        /** A packet on its way, with the tag that most packets have; the rest is to be filled. */
        Packet post(int path, int kind) {
            Packet packet = paths[path].row.addNew();
            packet.kind = kind;
            packet.tag = otherTag;
            return packet;
        }

        void postAbort() {
            post(pathToUse(), ABORT);
        }

        void takeInitAck(int path, Packet packet, int now) {
            if (state != WAITING || packet.tag != ownTag) {
                return;
            }
            otherTag = packet.newTag;
            cookie.copyFrom(packet.cookie);
            state = ECHOED;
            startTries(now);
            postOpening(path);
        }

        void takeEchoAck(Packet packet) {
            if (state == ECHOED && packet.tag == ownTag) {
                comeUp();
            }
        }

        /** A packet of one of the later kinds, with this end's own tag. */
        void takeWhenUp(int path, Packet packet, int now) {
            switch (packet.kind) {
                case DATA:
                    takeData(path, packet.word);
                    break;
                case SACK:
                    takeSack(packet, now);
                    break;
                case BEAT:
                    post(path, BEATACK).tick = packet.tick;
                    break;
                case BEATACK:
                    takeBeatAck(paths[path], packet.tick);
                    break;
                case ABORT:
                    close(ABORTED);
                    break;
                default:
                    break;
            }
        }

        void passTick(int now) {
            if ((state == WAITING || state == ECHOED) && now >= tryDue) {
                tryAgain(now);
            }
            for (int i = 0; i < PATHS && state == UP; i++) {
                passPathTick(i, now);
            }
            if (state == UP) {
                sendWhatItMay(now);
            }
        }

        void sendWhatItMay(int now) {
            // Each turn but the last puts one word out, so as many turns as words are enough.
            for (int turn = 0; turn < MOST_TO_SEND; turn++) {
                int number = outbox.firstToSend();
                if (number == NONE) {
                    return;
                }
                SentWord sent = outbox.at(number);
                int path = pathFor(sent);
                if (!mayGo(sent, path)) {
                    return;
                }
                putOut(sent, path, now);
            }
        }

        int pathToUse() {
            int other = PATHS - 1 - primaryPath;
            return !paths[primaryPath].active && paths[other].active ? other : primaryPath;
        }

        int tell(int what) {
            switch (what) {
                case 0: return state;
                case 1: return ownTag;
                case 2: return otherTag;
                case 3: return report;
                case 4: return outbox.count();
                case 5: return state == UP ? inbox.latest : 0;
                case 6: return inbox.kept();
                case 7: return state == UP ? allErrors : 0;
                case 8: return state == UP ? outbox.window : 0;
                case 9: return state == UP ? pathToUse() : 0;
                default: return NONE;
            }
        }

        int tellOfPath(int path, int what) {
            if (what < 0 || what > 6) {
                return NONE;
            }
            if (state != UP) {
                return 0;
            }
            Path asked = paths[path];
            switch (what) {
                case 0: return asked.rate;
                case 1: return asked.wait;
                case 2: return asked.errors;
                case 3: return asked.active ? 1 : 0;
                case 4: return outbox.countOut(path);
                case 5: return asked.timerRuns ? 1 : 0;
                default: return asked.beatOpen ? 1 : 0;
            }
        }

        private void startTries(int now) {
            tries = 1;
            tryDue = now + TRY_TICKS;
        }

        private void tryAgain(int now) {
            if (tries >= limit) {
                close(NO_ANSWER);
                return;
            }
            tries++;
            tryDue = now + TRY_TICKS;
            postOpening(tries % PATHS);
        }

        /** The INIT or ECHO that the end waits to have answered. */
        private void postOpening(int path) {
            if (state == WAITING) {
                Packet init = post(path, INIT);
                init.tag = 0;
                init.newTag = ownTag;
            } else {
                post(path, ECHO).cookie.copyFrom(cookie);
            }
        }

        private void takeData(int path, Word word) {
            inbox.take(word);
            Packet sack = post(path, SACK);
            sack.number = inbox.latest;
            sack.gaps = inbox.gaps();
            sack.window = inbox.window();
        }

        private void takeBeatAck(Path path, int tick) {
            if (path.beatOpen && path.beatTick == tick) {
                path.beatOpen = false;
                path.active = true;
                path.errors = 0;
                allErrors = 0;
            }
        }

        private void takeSack(Packet sack, int now) {
            if (sack.number < outbox.firstNumber - 1 || sack.number >= outbox.nextNumber) {
                return;
            }
            for (int i = 0; i < PATHS; i++) {
                paths[i].good = false;
            }
            dropUpTo(sack.number);
            holdGaps(sack.gaps);
            outbox.window = sack.window;
            rewardGoodPaths();
            strikeBelow(sack.gaps);
            settleTimers(now);
            sendWhatItMay(now);
        }

        private void dropUpTo(int number) {
            for (int n = outbox.firstNumber; n <= number; n++) {
                SentWord sent = outbox.at(n);
                if (sent.state == OUT || sent.state == MARKED) {
                    paths[sent.lastPath].good = true;
                }
            }
            outbox.firstNumber = number + 1;
        }

        private void holdGaps(int gaps) {
            for (int k = 0; k < GAP_BITS; k++) {
                int number = outbox.firstNumber + k;
                int wordState = outbox.stateOf(number);
                if (isSet(gaps, k) && (wordState == OUT || wordState == MARKED)) {
                    SentWord sent = outbox.at(number);
                    sent.state = HELD;
                    paths[sent.lastPath].good = true;
                }
            }
        }

        private void rewardGoodPaths() {
            for (int i = 0; i < PATHS; i++) {
                if (paths[i].good) {
                    paths[i].reward();
                    allErrors = 0;
                }
            }
        }

        private void strikeBelow(int gaps) {
            int greatest = GAP_BITS - 1;
            while (greatest > 0 && !isSet(gaps, greatest)) {
                greatest--;
            }
            // Bit 0 stands for the first word itself, and there is none below that.
            for (int k = 0; k < greatest; k++) {
                int number = outbox.firstNumber + k;
                if (outbox.stateOf(number) == OUT) {
                    strike(outbox.at(number));
                }
            }
        }

        private void strike(SentWord sent) {
            sent.strikes++;
            if (sent.strikes >= STRIKES) {
                sent.state = MARKED;
                sent.strikes = 0;
                Path path = paths[sent.lastPath];
                path.rate = Math.max(1, path.rate / 2);
            }
        }

        private void settleTimers(int now) {
            for (int i = 0; i < PATHS; i++) {
                if (outbox.countOut(i) == 0) {
                    paths[i].timerRuns = false;
                } else if (paths[i].good) {
                    paths[i].startTimer(now);
                }
            }
        }

        private int pathFor(SentWord sent) {
            int other = PATHS - 1 - sent.lastPath;
            return sent.state == MARKED && paths[other].active ? other : pathToUse();
        }

        private boolean mayGo(SentWord sent, int path) {
            if (outbox.countOut(path) >= paths[path].rate) {
                return false;
            }
            // With nothing out, one new word goes even into a closed window: its SACK tells
            // when the window has opened.
            int underWay = outbox.countOutOrMarked();
            return sent.state != NEW || underWay == 0 || underWay < outbox.window;
        }

        private void putOut(SentWord sent, int path, int now) {
            post(path, DATA).word.copyFrom(sent.word);
            sent.state = OUT;
            sent.lastPath = path;
            sent.strikes = 0;
            if (!paths[path].timerRuns) {
                paths[path].startTimer(now);
            }
        }

        private void passPathTick(int index, int now) {
            Path path = paths[index];
            if (path.timerRuns && now >= path.timerDue) {
                outbox.markAllOut(index);
                path.slowDown();
                addError(path);
            } else if (now % BEAT_TICKS == 0 && outbox.countOut(index) == 0) {
                if (path.beatOpen) {
                    addError(path);
                }
                if (state == UP) {
                    postBeat(index, now);
                }
            }
        }

        private void postBeat(int path, int now) {
            paths[path].beatOpen = true;
            paths[path].beatTick = now;
            post(path, BEAT).tick = now;
        }

        private void addError(Path path) {
            path.errors++;
            allErrors++;
            if (path.errors >= PATH_ERRORS) {
                path.active = false;
            }
            if (allErrors > limit) {
                postAbort();
                close(TOO_MANY_ERRORS);
            }
        }
    }
}
