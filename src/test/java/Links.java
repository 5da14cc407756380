/** What the tests share: links brought to a state, and the document's MIX written out again. */
final class Links {
    static final int CLOSED = 0;
    static final int WAITING = 1;
    static final int ECHOED = 2;
    static final int UP = 3;

    static final int STATE = 0;
    static final int OWN = 1;
    static final int OTHER = 2;
    static final int REPORT = 3;
    static final int TO_SEND = 4;
    static final int LATEST = 5;
    static final int KEPT = 6;
    static final int ALL_ERRORS = 7;
    static final int WINDOW = 8;
    static final int TO_USE = 9;

    static final int RATE = 0;
    static final int WAIT = 1;
    static final int ERRORS = 2;
    static final int ACTIVE = 3;
    static final int OUT_ON = 4;
    static final int TIMER = 5;
    static final int BEAT_OPEN = 6;

    static final int STRANGE_TAG = 987654;

    /** Numbers that no end and no path has. */
    static final int[] NEITHER = {-1, 2, 3, -2, 256, -256, Integer.MIN_VALUE, Integer.MAX_VALUE};

    private Links() {
    }

    static int mix(int... numbers) {
        int h = -2128831035;
        for (int x : numbers) {
            h = (h ^ x) * 16777619;
            h = h ^ (h >>> 15);
        }
        return h;
    }

    static int serverTag(int key, int clientTag) {
        int s = clientTag ^ mix(key);
        return s == 0 ? mix(key) : s;
    }

    static int seal(int key, int clientTag, int tick) {
        return mix(key, clientTag, serverTag(key, clientTag), tick, 7);
    }

    /** A link whose both ends are up, by the four packets over path 0, at tick 0. */
    static StreamLink up(int room, int limit, int key, int tag) {
        StreamLink link = new StreamLink(room, limit, key);
        connect(link, tag);
        return link;
    }

    /**
     * A link at tick 32 that is up with room 16: BEATs on one path got no answer, those on the
     * other did, so that the first one has three errors and is not active, at both ends.
     */
    static StreamLink withOneFailed(int limit, int failed) {
        StreamLink link = up(16, limit, 1, 12);
        for (int i = 0; i < 4; i++) {
            ticks(link, 8);
            settle(link, 1 - failed);
            lose(link, 0, failed, 8);
            lose(link, 1, failed, 8);
        }
        return link;
    }

    /** A link that is up, with one packet, a BEAT, in each of its four rows. */
    static StreamLink withPacketsInEveryRow() {
        StreamLink link = up(8, 5, 1, 12);
        ticks(link, 8);
        return link;
    }

    static int packetsUnderWay(StreamLink link) {
        return link.waiting(0, 0) + link.waiting(0, 1) + link.waiting(1, 0) + link.waiting(1, 1);
    }

    static void connect(StreamLink link, int tag) {
        link.open(tag);
        link.deliver(0, 0);
        link.deliver(1, 0);
        link.deliver(0, 0);
        link.deliver(1, 0);
    }

    /** A forged ECHO that only one who knows the key can make: end 1 comes up by it alone. */
    static boolean forgeGoodEcho(StreamLink link, int key, int clientTag, int tick) {
        int serverTag = serverTag(key, clientTag);
        return link.forge(1, 2, serverTag, clientTag, serverTag, tick, seal(key, clientTag, tick));
    }

    static void ticks(StreamLink link, int count) {
        for (int i = 0; i < count; i++) {
            link.tick();
        }
    }

    static void lose(StreamLink link, int end, int path, int count) {
        for (int i = 0; i < count; i++) {
            link.alter(end, path, false);
        }
    }

    static void loseAll(StreamLink link) {
        loseAllFrom(link, 0);
        loseAllFrom(link, 1);
    }

    static void loseAllFrom(StreamLink link, int end) {
        lose(link, end, 0, 8);
        lose(link, end, 1, 8);
    }

    /** The first packet of a row comes to its end instead. */
    static void toTheEnd(StreamLink link, int end, int path) {
        link.alter(end, path, true);
        link.alter(end, path, false);
    }

    /** A stranger's ABORTs, with a tag that is nobody's, until 8 packets go to an end on path 0. */
    static void fillRowTo(StreamLink link, int end) {
        for (int i = 0; i < 8; i++) {
            link.forge(end, 8, STRANGE_TAG, 0, 0, 0, 0);
        }
    }

    static void deliver(StreamLink link, int end, int path, int count) {
        for (int i = 0; i < count; i++) {
            link.deliver(end, path);
        }
    }

    /** All that is under way on a path, to and fro, until nothing is. */
    static void settle(StreamLink link, int path) {
        for (int i = 0; i < 100 && link.waiting(0, path) + link.waiting(1, path) > 0; i++) {
            link.deliver(0, path);
            link.deliver(1, path);
        }
    }
}
