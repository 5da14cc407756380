/** Promise 4, deliver: BEAT, BEATACK and ABORT, and tags that are not the end's own. */
public final class Promise04OtherKindsTest {
    private static final Check CHECK = new Check("promise 4, other kinds");

    public static void main(String[] args) {
        aBeatIsAnswered();
        aBeatAckMakesThePathWell();
        anOldBeatAckDoesNothing();
        abortClosesAnEndThatIsUp();
        abortNeedsTheOwnTag();
        abortNeedsAnEndThatIsUp();
        packetsWithOldTagsDoNothing();
        CHECK.finish();
    }

    private static void aBeatIsAnswered() {
        StreamLink link = Links.up(8, 9, 1, 12);
        Links.ticks(link, 8);
        for (int path = 0; path < 2; path++) {
            CHECK.due("beat open", link.path(0, path, Links.BEAT_OPEN), 1);
            Links.lose(link, 1, path, 8);
            CHECK.due("BEAT", link.deliver(0, path), 6);
            CHECK.due("end 1's own beat stays open", link.path(1, path, Links.BEAT_OPEN), 1);
            CHECK.due("BEATACK on its path", link.waiting(1, path), 1);
            CHECK.due("BEATACK", link.deliver(1, path), 7);
            CHECK.due("no beat open", link.path(0, path, Links.BEAT_OPEN), 0);
        }
    }

    private static void aBeatAckMakesThePathWell() {
        StreamLink link = Links.up(8, 9, 1, 12);
        Links.ticks(link, 32);
        for (int path = 0; path < 2; path++) {
            CHECK.due("errors", link.path(0, path, Links.ERRORS), 3);
            CHECK.due("active", link.path(0, path, Links.ACTIVE), 0);
        }
        CHECK.due("all errors", link.about(0, Links.ALL_ERRORS), 6);
        CHECK.due("row", link.waiting(0, 0), 4);
        Links.lose(link, 0, 0, 3);
        Links.lose(link, 1, 0, 8);
        link.deliver(0, 0);
        link.deliver(1, 0);
        CHECK.due("errors of path 0", link.path(0, 0, Links.ERRORS), 0);
        CHECK.due("path 0 is active", link.path(0, 0, Links.ACTIVE), 1);
        CHECK.due("beat of path 0", link.path(0, 0, Links.BEAT_OPEN), 0);
        CHECK.due("all errors", link.about(0, Links.ALL_ERRORS), 0);
        CHECK.due("errors of path 1", link.path(0, 1, Links.ERRORS), 3);
        CHECK.due("path 1 is not active", link.path(0, 1, Links.ACTIVE), 0);
        CHECK.due("beat of path 1", link.path(0, 1, Links.BEAT_OPEN), 1);
    }

    private static void anOldBeatAckDoesNothing() {
        StreamLink link = Links.up(8, 9, 1, 12);
        Links.ticks(link, 16);
        Links.lose(link, 1, 0, 8);
        CHECK.due("BEAT of 8", link.deliver(0, 0), 6);
        CHECK.due("BEATACK of 8", link.deliver(1, 0), 7);
        CHECK.due("the beat of 16 is open", link.path(0, 0, Links.BEAT_OPEN), 1);
        CHECK.due("errors", link.path(0, 0, Links.ERRORS), 1);
        link.deliver(0, 0);
        link.alter(1, 0, true);
        CHECK.due("BEATACK of 16", link.deliver(1, 0), 7);
        CHECK.due("no beat is open", link.path(0, 0, Links.BEAT_OPEN), 0);
        CHECK.due("errors", link.path(0, 0, Links.ERRORS), 0);
        CHECK.due("all errors", link.about(0, Links.ALL_ERRORS), 0);
        // Path 1 has an error more at 24; the BEATACK of 16, come twice, does not heal it.
        Links.ticks(link, 8);
        CHECK.due("all errors", link.about(0, Links.ALL_ERRORS), 1);
        link.deliver(1, 0);
        CHECK.due("all errors", link.about(0, Links.ALL_ERRORS), 1);
    }

    private static void abortClosesAnEndThatIsUp() {
        StreamLink link = Links.up(8, 9, 1, 12);
        link.send(1, 0, false, 1, 4);
        link.abort(0);
        CHECK.due("ABORT", link.deliver(0, 0), 8);
        CHECK.due("state", link.about(1, Links.STATE), Links.CLOSED);
        CHECK.due("report", link.about(1, Links.REPORT), 3);
        CHECK.due("own tag", link.about(1, Links.OWN), 0);
        CHECK.due("other tag", link.about(1, Links.OTHER), 0);
        CHECK.due("to send", link.about(1, Links.TO_SEND), 0);
        CHECK.due("packets under way stay", link.waiting(1, 0), 2);
        CHECK.due("no answer", link.waiting(0, 0), 0);
    }

    private static void abortNeedsTheOwnTag() {
        StreamLink link = Links.up(8, 9, 1, 12);
        link.forge(0, 8, 13, 0, 0, 0, 0);
        link.forge(1, 8, 13, 0, 0, 0, 0);
        CHECK.due("ABORT at end 0", link.deliver(1, 0), 8);
        CHECK.due("ABORT at end 1", link.deliver(0, 0), 8);
        CHECK.due("state", link.about(0, Links.STATE), Links.UP);
        CHECK.due("state", link.about(1, Links.STATE), Links.UP);
        CHECK.due("report", link.about(0, Links.REPORT), 0);
    }

    private static void abortNeedsAnEndThatIsUp() {
        StreamLink link = new StreamLink(8, 9, 1);
        for (int i = 0; i < 3; i++) {
            link.forge(0, 8, 12, 0, 0, 0, 0);
        }
        link.open(12);
        CHECK.due("ABORT", link.deliver(1, 0), 8);
        CHECK.due("waiting still", link.about(0, Links.STATE), Links.WAITING);
        link.deliver(0, 0);
        Links.deliver(link, 1, 0, 2);
        CHECK.due("waiting still", link.about(0, Links.STATE), Links.WAITING);
        link.alter(1, 0, true);
        link.deliver(1, 0);
        CHECK.due("echoed", link.about(0, Links.STATE), Links.ECHOED);
        int server = Links.serverTag(1, 12);
        CHECK.due("end 1's tag to be", link.forge(1, 8, server, 0, 0, 0, 0), true);
        link.forge(0, 8, 13, 0, 0, 0, 0);
        link.deliver(0, 0);
        CHECK.due("end 1 is up", link.about(1, Links.STATE), Links.UP);
        CHECK.due("a guess made before is its own tag now", link.deliver(0, 0), 8);
        CHECK.due("and closes it", link.about(1, Links.STATE), Links.CLOSED);
        anAbortForTheEchoedEndDoesNothing();
    }

    private static void anAbortForTheEchoedEndDoesNothing() {
        StreamLink link = new StreamLink(8, 9, 1);
        link.forge(0, 8, 12, 0, 0, 0, 0);
        link.open(12);
        link.deliver(0, 0);
        link.alter(1, 0, true);
        link.alter(1, 0, false);
        link.deliver(1, 0);
        CHECK.due("echoed", link.about(0, Links.STATE), Links.ECHOED);
        CHECK.due("ABORT", link.deliver(1, 0), 8);
        CHECK.due("echoed still", link.about(0, Links.STATE), Links.ECHOED);
    }

    private static void packetsWithOldTagsDoNothing() {
        StreamLink link = Links.up(8, 9, 1, 12);
        Links.ticks(link, 8);
        // On path 1, a BEAT of the old connection goes to each end, and then a new one is made.
        link.abort(0);
        link.abort(1);
        Links.lose(link, 0, 0, 8);
        Links.lose(link, 1, 0, 8);
        Links.connect(link, 13);
        CHECK.due("up", link.about(0, Links.STATE) + link.about(1, Links.STATE), 6);
        CHECK.due("old BEAT at end 1", link.deliver(0, 1), 6);
        CHECK.due("no answer", link.waiting(1, 1), 1);
        CHECK.due("old BEAT at end 0", link.deliver(1, 1), 6);
        CHECK.due("no answer", link.waiting(0, 1), 0);
    }
}
