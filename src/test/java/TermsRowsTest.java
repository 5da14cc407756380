/** Terms, "a ROW .. at most 8, the oldest first; a packet that is sent when 8 are there is lost". */
public final class TermsRowsTest {
    private static final Check CHECK = new Check("terms, rows");

    public static void main(String[] args) {
        theOldestComesFirst();
        everyRowHasItsOwnEight();
        anInitIsLost();
        anInitThatIsSentAgainIsLost();
        anInitAckIsLost();
        anEchoIsLost();
        anEchoAckIsLost();
        dataIsLost();
        aSackIsLost();
        aBeatIsLost();
        aBeatAckIsLost();
        anAbortIsLost();
        anAbortForErrorsIsLost();
        CHECK.finish();
    }

    /** All packets of the row from an end on path 0 arrive: eight ABORTs of a stranger. */
    private static void onlyStrangersArrive(StreamLink link, int end) {
        CHECK.due("eight", link.waiting(end, 0), 8);
        for (int i = 0; i < 8; i++) {
            CHECK.due("a stranger's ABORT", link.deliver(end, 0), 8);
        }
        CHECK.due("no ninth", link.deliver(end, 0), StreamLink.NONE);
    }

    private static void theOldestComesFirst() {
        StreamLink link = new StreamLink(8, 5, 1);
        int[] kinds = {0, 2, 8, 8, 0, 2, 2, 8};
        for (int kind : kinds) {
            CHECK.due("forge", link.forge(0, kind, 99, 1, 2, 3, 4), true);
        }
        for (int i = 0; i < 5; i++) {
            CHECK.due("packet " + i, link.deliver(1, 0), kinds[i]);
            CHECK.due("left", link.waiting(1, 0), 7 - i);
        }
        // Packets that come into places that were free again are younger than those left.
        int[] more = {8, 0, 8, 2, 0};
        for (int kind : more) {
            CHECK.due("forge", link.forge(0, kind, 99, 1, 2, 3, 4), true);
        }
        CHECK.due("the ninth", link.forge(0, 8, 99, 1, 2, 3, 4), false);
        int[] then = {2, 2, 8, 8, 0, 8, 2, 0};
        for (int kind : then) {
            CHECK.due("next", link.deliver(1, 0), kind);
        }
        CHECK.due("none", link.deliver(1, 0), StreamLink.NONE);
    }

    private static void everyRowHasItsOwnEight() {
        StreamLink link = Links.up(16, 9, 1, 12);
        Links.fillRowTo(link, 0);
        Links.fillRowTo(link, 1);
        for (int end = 0; end < 2; end++) {
            CHECK.due("eight on path 0", link.waiting(end, 0), 8);
            CHECK.due("none on path 1", link.waiting(end, 1), 0);
            link.primary(end, 1);
            link.send(end, 0, false, 40 + end, 1);
            for (int i = 0; i < 7; i++) {
                CHECK.due("twice", link.alter(end, 1, true), true);
            }
            CHECK.due("twice with 8", link.alter(end, 1, true), false);
            CHECK.due("eight on path 1, too", link.waiting(end, 1), 8);
        }
    }

    private static void anInitIsLost() {
        StreamLink link = new StreamLink(8, 5, 1);
        Links.fillRowTo(link, 1);
        CHECK.due("open", link.open(12), true);
        CHECK.due("waiting", link.about(0, Links.STATE), Links.WAITING);
        CHECK.due("own tag", link.about(0, Links.OWN), 12);
        onlyStrangersArrive(link, 0);
        Links.ticks(link, 2);
        CHECK.due("not sent again yet", link.waiting(0, 0), 0);
        link.tick();
        CHECK.due("INIT again", link.deliver(0, 0), 0);
    }

    private static void anInitThatIsSentAgainIsLost() {
        StreamLink link = new StreamLink(8, 2, 1);
        link.open(12);
        link.alter(0, 0, false);
        Links.fillRowTo(link, 1);
        Links.ticks(link, 3);
        onlyStrangersArrive(link, 0);
        Links.ticks(link, 2);
        CHECK.due("waiting", link.about(0, Links.STATE), Links.WAITING);
        link.tick();
        CHECK.due("the lost try counts", link.about(0, Links.STATE), Links.CLOSED);
        CHECK.due("report", link.about(0, Links.REPORT), 2);
    }

    private static void anInitAckIsLost() {
        StreamLink link = new StreamLink(8, 5, 1);
        link.open(12);
        Links.fillRowTo(link, 0);
        CHECK.due("INIT", link.deliver(0, 0), 0);
        onlyStrangersArrive(link, 1);
        CHECK.due("waiting still", link.about(0, Links.STATE), Links.WAITING);
    }

    private static void anEchoIsLost() {
        StreamLink link = new StreamLink(8, 5, 1);
        link.open(12);
        link.deliver(0, 0);
        Links.fillRowTo(link, 1);
        CHECK.due("INITACK", link.deliver(1, 0), 1);
        CHECK.due("echoed", link.about(0, Links.STATE), Links.ECHOED);
        CHECK.due("other tag", link.about(0, Links.OTHER), Links.serverTag(1, 12));
        onlyStrangersArrive(link, 0);
        Links.ticks(link, 3);
        CHECK.due("ECHO again", link.deliver(0, 0), 2);
        CHECK.due("end 1 is up", link.about(1, Links.STATE), Links.UP);
    }

    private static void anEchoAckIsLost() {
        StreamLink link = new StreamLink(8, 5, 1);
        link.open(12);
        link.deliver(0, 0);
        link.deliver(1, 0);
        Links.fillRowTo(link, 0);
        CHECK.due("ECHO", link.deliver(0, 0), 2);
        CHECK.due("end 1 is up", link.about(1, Links.STATE), Links.UP);
        onlyStrangersArrive(link, 1);
        CHECK.due("end 0 is echoed", link.about(0, Links.STATE), Links.ECHOED);
    }

    private static void dataIsLost() {
        StreamLink link = Links.up(16, 9, 1, 12);
        Links.fillRowTo(link, 1);
        CHECK.due("send", link.send(0, 0, false, 40, 1), true);
        CHECK.due("word 1 is out", link.word(0, 1), 2);
        CHECK.due("out on path 0", link.path(0, 0, Links.OUT_ON), 1);
        CHECK.due("its timer runs", link.path(0, 0, Links.TIMER), 1);
        CHECK.due("nothing on path 1", link.waiting(0, 1), 0);
        onlyStrangersArrive(link, 0);
        CHECK.due("nothing came", link.about(1, Links.LATEST), 0);
        Links.ticks(link, 3);
        CHECK.due("sent again on path 1", link.deliver(0, 1), 4);
        CHECK.due("read", link.read(1, 0), 40);
    }

    private static void aSackIsLost() {
        StreamLink link = Links.up(16, 9, 1, 12);
        link.send(0, 0, false, 40, 1);
        Links.fillRowTo(link, 0);
        CHECK.due("DATA", link.deliver(0, 0), 4);
        CHECK.due("latest", link.about(1, Links.LATEST), 1);
        CHECK.due("ready", link.ready(1, 0), 1);
        onlyStrangersArrive(link, 1);
        CHECK.due("word 1 is out still", link.word(0, 1), 2);
    }

    private static void aBeatIsLost() {
        StreamLink link = Links.up(16, 9, 1, 12);
        Links.ticks(link, 7);
        Links.fillRowTo(link, 1);
        link.tick();
        CHECK.due("a beat is open", link.path(0, 0, Links.BEAT_OPEN), 1);
        onlyStrangersArrive(link, 0);
        Links.ticks(link, 8);
        CHECK.due("and an error at 16", link.path(0, 0, Links.ERRORS), 1);
    }

    private static void aBeatAckIsLost() {
        StreamLink link = Links.up(16, 9, 1, 12);
        Links.ticks(link, 8);
        Links.fillRowTo(link, 0);
        CHECK.due("end 1's BEAT", link.alter(1, 0, false), true);
        Links.fillRowTo(link, 0);
        CHECK.due("BEAT", link.deliver(0, 0), 6);
        onlyStrangersArrive(link, 1);
        CHECK.due("the beat is open still", link.path(0, 0, Links.BEAT_OPEN), 1);
    }

    private static void anAbortIsLost() {
        StreamLink link = Links.up(16, 9, 1, 12);
        Links.fillRowTo(link, 1);
        CHECK.due("abort", link.abort(0), true);
        CHECK.due("closed", link.about(0, Links.STATE), Links.CLOSED);
        CHECK.due("report", link.about(0, Links.REPORT), 3);
        CHECK.due("nothing on path 1", link.waiting(0, 1), 0);
        onlyStrangersArrive(link, 0);
        CHECK.due("end 1 is up still", link.about(1, Links.STATE), Links.UP);
    }

    private static void anAbortForErrorsIsLost() {
        StreamLink link = Links.up(16, 2, 1, 12);
        Links.ticks(link, 23);
        Links.loseAll(link);
        Links.fillRowTo(link, 1);
        CHECK.due("two errors", link.about(0, Links.ALL_ERRORS), 2);
        link.tick();
        CHECK.due("closed", link.about(0, Links.STATE), Links.CLOSED);
        CHECK.due("report", link.about(0, Links.REPORT), 1);
        CHECK.due("nothing on path 1", link.waiting(0, 1), 0);
        onlyStrangersArrive(link, 0);
    }
}
