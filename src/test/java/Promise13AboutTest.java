/** Promise 13: about, in every state of an end. */
public final class Promise13AboutTest {
    private static final Check CHECK = new Check("promise 13");
    private static final int KEY = 9;
    private static final int SERVER = Links.serverTag(KEY, 12);

    public static void main(String[] args) {
        thereIsNoSuchEndOrWhat();
        everyStateOnTheWayUp();
        everyNumberWhenUp();
        reportsStayUntilTheNextClosing();
        keptOutlivesTheConnection();
        CHECK.finish();
    }

    /** About an end: what 0 to 9 in order. */
    private static void due(StreamLink link, String when, int end, int... answers) {
        for (int what = 0; what < answers.length; what++) {
            CHECK.due(when + ": about(" + end + ", " + what + ")", link.about(end, what),
                answers[what]);
        }
    }

    private static void thereIsNoSuchEndOrWhat() {
        StreamLink link = Links.up(8, 5, KEY, 12);
        int[] wrong = {-1, 10, 11, Integer.MIN_VALUE, Integer.MAX_VALUE};
        for (int what : wrong) {
            CHECK.due("what " + what, link.about(0, what), StreamLink.NONE);
        }
        int[] noEnds = {-1, 2, Integer.MIN_VALUE, Integer.MAX_VALUE};
        for (int end : noEnds) {
            for (int what = -1; what <= 10; what++) {
                CHECK.due("end " + end, link.about(end, what), StreamLink.NONE);
            }
        }
        link.abort(0);
        CHECK.due("what -1 when closed", link.about(0, -1), StreamLink.NONE);
        CHECK.due("what 10 when closed", link.about(0, 10), StreamLink.NONE);
    }

    private static void everyStateOnTheWayUp() {
        StreamLink link = new StreamLink(7, 5, KEY);
        due(link, "new", 0, 0, 0, 0, 0, 0, 0, 0, 0, 0, 0);
        link.open(12);
        due(link, "waiting", 0, 1, 12, 0, 0, 0, 0, 0, 0, 0, 0);
        link.deliver(0, 0);
        link.deliver(1, 0);
        due(link, "echoed", 0, 2, 12, SERVER, 0, 0, 0, 0, 0, 0, 0);
        due(link, "echoed", 1, 0, 0, 0, 0, 0, 0, 0, 0, 0, 0);
        link.deliver(0, 0);
        due(link, "up", 1, 3, SERVER, 12, 0, 0, 0, 0, 0, 7, 0);
        link.deliver(1, 0);
        due(link, "up", 0, 3, 12, SERVER, 0, 0, 0, 0, 0, 7, 0);
    }

    private static void everyNumberWhenUp() {
        StreamLink link = Links.up(7, 9, KEY, 12);
        link.primary(0, 1);
        link.send(0, 0, false, 1, 4);
        Links.settle(link, 1);
        link.send(1, 0, false, 1, 3);
        link.deliver(1, 0);
        link.send(0, 0, false, 1, 4);
        Links.ticks(link, 3);
        due(link, "up", 0, 3, 12, SERVER, 0, 4, 1, 1, 1, 3, 1);
        due(link, "up", 1, 3, SERVER, 12, 0, 3, 4, 4, 1, 7, 0);
        link.abort(0);
        due(link, "closed", 0, 0, 0, 0, 3, 0, 0, 0, 0, 0, 0);
        link.abort(1);
        due(link, "closed", 1, 0, 0, 0, 3, 0, 0, 4, 0, 0, 0);
    }

    private static void reportsStayUntilTheNextClosing() {
        StreamLink link = new StreamLink(8, 2, KEY);
        link.open(12);
        Links.ticks(link, 6);
        CHECK.due("no answer", link.about(0, Links.REPORT), 2);
        Links.loseAll(link);
        Links.connect(link, 13);
        CHECK.due("up", link.about(0, Links.STATE), Links.UP);
        CHECK.due("the report stays", link.about(0, Links.REPORT), 2);
        link.send(0, 0, false, 1, 1);
        Links.ticks(link, 18);
        CHECK.due("too many errors", link.about(0, Links.REPORT), 1);
        link.open(14);
        CHECK.due("the report stays", link.about(0, Links.REPORT), 1);
        link.abort(0);
        CHECK.due("aborted", link.about(0, Links.REPORT), 3);
    }

    private static void keptOutlivesTheConnection() {
        StreamLink link = Links.up(8, 5, KEY, 12);
        link.send(1, 0, false, 1, 2);
        link.send(1, 0, false, 3, 2);
        Links.deliver(link, 1, 0, 2);
        Links.deliver(link, 0, 0, 2);
        link.deliver(1, 0);
        CHECK.due("kept", link.about(0, Links.KEPT), 3);
        CHECK.due("latest", link.about(0, Links.LATEST), 3);
        link.abort(0);
        CHECK.due("kept when closed", link.about(0, Links.KEPT), 2);
        CHECK.due("latest when closed", link.about(0, Links.LATEST), 0);
        link.open(13);
        CHECK.due("kept when waiting", link.about(0, Links.KEPT), 2);
        link.read(0, 0);
        CHECK.due("kept no more", link.about(0, Links.KEPT), 0);
    }
}
