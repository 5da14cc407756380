/** Terms, what happens "when an end comes UP" and "when it is closed", with nothing as it was new. */
public final class TermsUpAndClosedTest {
    private static final Check CHECK = new Check("terms, up and closed");
    private static final int[] NEW_PATH = {2, 3, 0, 1, 0, 0, 0};

    public static void main(String[] args) {
        allBeginsAnewAtBothEnds();
        oldWordsAreNotHad();
        manyOldWordsAreNotHad();
        oldPacketsAreForNobody();
        anEndAloneBeginsAnew();
        closedByAbort();
        closedByAnAbortPacket();
        closedByErrors();
        closedWithoutAnswer();
        CHECK.finish();
    }

    /** Both ends with nothing as it was at first: orders, paths, words, windows and errors. */
    private static StreamLink worn() {
        StreamLink link = Links.up(8, 9, 1, 12);
        for (int end = 0; end < 2; end++) {
            for (int stream = 0; stream < 3; stream++) {
                link.send(end, stream, false, 10 * stream, 1);
            }
        }
        Links.settle(link, 0);
        // BEATs on path 0 get no answer: three errors there, and it is not active.
        for (int i = 0; i < 4; i++) {
            Links.ticks(link, 8);
            Links.lose(link, 0, 0, 8);
            Links.lose(link, 1, 0, 8);
            Links.settle(link, i < 3 ? 1 : 0);
        }
        for (int end = 0; end < 2; end++) {
            link.primary(end, 1);
            link.send(end, 0, false, 50, 4);
        }
        aWordComesAboveAGap(link);
        Links.ticks(link, 3);
        return link;
    }

    /** On path 1 words 4 and 5 of each end go behind a BEAT, and only word 5 comes. */
    private static void aWordComesAboveAGap(StreamLink link) {
        Links.lose(link, 0, 1, 2);
        Links.lose(link, 1, 1, 2);
        link.deliver(0, 1);
        link.deliver(1, 1);
        // The SACKs come.
        link.deliver(0, 1);
        link.deliver(1, 1);
    }

    private static void isWorn(StreamLink link, int end) {
        CHECK.due("path 0 is not active", link.path(end, 0, Links.ACTIVE), 0);
        CHECK.due("errors of path 0", link.path(end, 0, Links.ERRORS), 3);
        CHECK.due("beat of path 0", link.path(end, 0, Links.BEAT_OPEN), 1);
        CHECK.due("beat of path 1", link.path(end, 1, Links.BEAT_OPEN), 1);
        CHECK.due("rate of path 0", link.path(end, 0, Links.RATE), 5);
        CHECK.due("wait of path 1", link.path(end, 1, Links.WAIT), 6);
        CHECK.due("errors of path 1", link.path(end, 1, Links.ERRORS), 1);
        CHECK.due("timer of path 1", link.path(end, 1, Links.TIMER), 1);
        CHECK.due("rate of path 1", link.path(end, 1, Links.RATE), 1);
        CHECK.due("all errors", link.about(end, Links.ALL_ERRORS), 1);
        CHECK.due("to send", link.about(end, Links.TO_SEND), 4);
        CHECK.due("word 5 is held", link.word(end, 5), 4);
        CHECK.due("latest", link.about(end, Links.LATEST), 3);
        CHECK.due("three ready words and one more are kept", link.about(end, Links.KEPT), 4);
        CHECK.due("window", link.about(end, Links.WINDOW), 4);
        CHECK.due("path to use", link.about(end, Links.TO_USE), 1);
    }

    private static void isNew(StreamLink link, int end, int kept) {
        CHECK.due("state", link.about(end, Links.STATE), Links.UP);
        CHECK.due("to send", link.about(end, Links.TO_SEND), 0);
        CHECK.due("latest", link.about(end, Links.LATEST), 0);
        CHECK.due("kept are the words of ready messages", link.about(end, Links.KEPT), kept);
        CHECK.due("all errors", link.about(end, Links.ALL_ERRORS), 0);
        CHECK.due("window is ROOM, whatever is kept", link.about(end, Links.WINDOW), 8);
        CHECK.due("path to use", link.about(end, Links.TO_USE), 0);
        for (int path = 0; path < 2; path++) {
            for (int what = 0; what < NEW_PATH.length; what++) {
                CHECK.due("path(" + end + ", " + path + ", " + what + ")",
                    link.path(end, path, what), NEW_PATH[what]);
            }
        }
        for (int number = 0; number <= 8; number++) {
            CHECK.due("word " + number, link.word(end, number), 0);
        }
    }

    private static void allBeginsAnewAtBothEnds() {
        StreamLink link = worn();
        isWorn(link, 0);
        isWorn(link, 1);
        link.abort(0);
        link.abort(1);
        Links.loseAll(link);
        Links.connect(link, 13);
        isNew(link, 0, 3);
        isNew(link, 1, 3);
        for (int end = 0; end < 2; end++) {
            ordersBeginAtZero(link, end);
        }
    }

    private static void ordersBeginAtZero(StreamLink link, int end) {
        for (int stream = 0; stream < 3; stream++) {
            link.send(end, stream, false, 100 + stream, 1);
            CHECK.due("its number", link.word(end, stream + 1), 2);
            Links.settle(link, 0);
            CHECK.due("the old one and the new one", link.ready(1 - end, stream), 2);
            CHECK.due("the old one is the first", link.read(1 - end, stream), 10 * stream);
            CHECK.due("then the new one", link.read(1 - end, stream), 100 + stream);
            CHECK.due("latest", link.about(1 - end, Links.LATEST), stream + 1);
        }
        CHECK.due("nothing is kept", link.about(1 - end, Links.KEPT), 0);
    }

    private static void oldWordsAreNotHad() {
        StreamLink link = worn();
        link.abort(0);
        link.abort(1);
        Links.loseAll(link);
        Links.connect(link, 13);
        for (int end = 0; end < 2; end++) {
            link.send(end, 0, true, 7, 4);
            Links.settle(link, 0);
            CHECK.due("word 5 of before does not follow", link.about(1 - end, Links.LATEST), 4);
            CHECK.due("four words and three of before", link.about(1 - end, Links.KEPT), 7);
            link.send(end, 0, true, 8, 1);
            Links.settle(link, 0);
            CHECK.due("word 5 is a new one", link.about(1 - end, Links.LATEST), 5);
            CHECK.due("and kept", link.about(1 - end, Links.KEPT), 8);
        }
    }

    /** Every number up to 40 comes in both connections; half a message is left from the first. */
    private static void manyOldWordsAreNotHad() {
        StreamLink link = Links.up(8, 9, 1, 12);
        wordsComeOneByOne(link, 31);
        link.send(0, 0, true, 900, 2);
        link.deliver(0, 0);
        CHECK.due("half a message", link.about(1, Links.KEPT), 1);
        link.abort(0);
        link.abort(1);
        Links.loseAll(link);
        Links.connect(link, 13);
        wordsComeOneByOne(link, 40);
        CHECK.due("nothing is kept", link.about(1, Links.KEPT), 0);
    }

    private static void wordsComeOneByOne(StreamLink link, int count) {
        for (int number = 1; number <= count; number++) {
            link.send(0, 0, true, 100 + number, 1);
            link.deliver(0, 0);
            CHECK.due("latest", link.about(1, Links.LATEST), number);
            CHECK.due("ready", link.ready(1, 0), 1);
            CHECK.due("read", link.read(1, 0), 100 + number);
            link.deliver(1, 0);
        }
    }

    /** On path 1, DATA and a SACK of an older connection come to ends that are up for another. */
    private static void oldPacketsAreForNobody() {
        StreamLink link = Links.up(8, 9, 1, 12);
        link.primary(0, 1);
        link.send(0, 0, false, 40, 1);
        link.alter(0, 1, true);
        link.deliver(0, 1);
        CHECK.due("read", link.read(1, 0), 40);
        link.abort(0);
        link.abort(1);
        Links.lose(link, 1, 0, 8);
        Links.connect(link, 13);
        CHECK.due("up", link.about(0, Links.STATE) + link.about(1, Links.STATE), 6);
        link.send(0, 0, false, 50, 1);
        CHECK.due("the old SACK of number 1", link.deliver(1, 1), 5);
        CHECK.due("the new word 1 is out still", link.word(0, 1), 2);
        CHECK.due("its window is ROOM still", link.about(0, Links.WINDOW), 8);
        CHECK.due("the old DATA of number 1", link.deliver(0, 1), 4);
        CHECK.due("nothing is had", link.about(1, Links.LATEST), 0);
        CHECK.due("nothing is ready", link.ready(1, 0), 0);
        CHECK.due("no SACK", link.waiting(1, 1), 0);
    }

    /** End 1 is up again with other tags, while the packets of end 0 stay those of before. */
    private static void anEndAloneBeginsAnew() {
        StreamLink link = worn();
        link.abort(1);
        Links.loseAll(link);
        Links.forgeGoodEcho(link, 1, 13, 35);
        CHECK.due("ECHO", link.deliver(0, 0), 2);
        isNew(link, 1, 3);
        CHECK.due("end 0 goes on", link.about(0, Links.TO_SEND), 4);
    }

    /**
     * A link whose end 0 has two ready words, an unready one, words to send and packets under
     * way: a SACK and two DATA on path 0.
     */
    private static StreamLink busy() {
        StreamLink link = Links.up(8, 2, 1, 12);
        link.send(1, 0, false, 50, 2);
        Links.settle(link, 0);
        link.send(1, 1, false, 60, 2);
        link.deliver(1, 0);
        link.send(0, 2, false, 70, 3);
        CHECK.due("kept", link.about(0, Links.KEPT), 3);
        CHECK.due("latest", link.about(0, Links.LATEST), 3);
        CHECK.due("to send", link.about(0, Links.TO_SEND), 3);
        CHECK.due("under way", link.waiting(0, 0), 3);
        return link;
    }

    private static void isClosed(StreamLink link, int report) {
        int[] closed = {0, 0, 0, report, 0, 0, 2, 0, 0, 0};
        for (int what = 0; what < closed.length; what++) {
            CHECK.due("about(0, " + what + ")", link.about(0, what), closed[what]);
        }
        for (int what = 0; what <= 6; what++) {
            CHECK.due("path 0, " + what, link.path(0, 0, what), 0);
            CHECK.due("path 1, " + what, link.path(0, 1, what), 0);
        }
        for (int number = 1; number <= 3; number++) {
            CHECK.due("word " + number, link.word(0, number), 0);
        }
        CHECK.due("the ready message stays", link.ready(0, 0), 1);
        CHECK.due("its length", link.length(0, 0), 2);
        CHECK.due("the half one is gone", link.ready(0, 1), 0);
        CHECK.due("it can be read", link.read(0, 0), 50);
        CHECK.due("and is kept no more", link.about(0, Links.KEPT), 0);
    }

    private static void closedByAbort() {
        StreamLink link = busy();
        link.abort(0);
        CHECK.due("packets under way stay, and an ABORT", link.waiting(0, 0), 4);
        isClosed(link, 3);
        int[] kinds = {5, 4, 4, 8};
        for (int kind : kinds) {
            CHECK.due("under way", link.deliver(0, 0), kind);
        }
    }

    private static void closedByAnAbortPacket() {
        StreamLink link = busy();
        link.abort(1);
        CHECK.due("word 4 is lost", link.alter(1, 0, false), true);
        CHECK.due("ABORT", link.deliver(1, 0), 8);
        CHECK.due("packets under way stay, without an answer", link.waiting(0, 0), 3);
        isClosed(link, 3);
    }

    private static void closedByErrors() {
        StreamLink link = busy();
        // Path 0 fails at 3, path 1 at 6, and path 0, which waits 6 then, at 9.
        Links.ticks(link, 8);
        CHECK.due("up at 8", link.about(0, Links.STATE), Links.UP);
        CHECK.due("two errors", link.about(0, Links.ALL_ERRORS), 2);
        int before = link.waiting(0, 0);
        link.tick();
        CHECK.due("packets under way stay, and an ABORT", link.waiting(0, 0), before + 1);
        isClosed(link, 1);
    }

    private static void closedWithoutAnswer() {
        StreamLink link = busy();
        link.abort(0);
        Links.loseAllFrom(link, 0);
        link.open(13);
        Links.ticks(link, 6);
        CHECK.due("packets under way stay: two INITs", link.waiting(0, 0), 2);
        isClosed(link, 2);
        StreamLink echoed = busy();
        echoed.abort(0);
        echoed.abort(1);
        Links.loseAll(echoed);
        echoed.open(13);
        echoed.deliver(0, 0);
        echoed.deliver(1, 0);
        CHECK.due("echoed", echoed.about(0, Links.STATE), Links.ECHOED);
        Links.ticks(echoed, 5);
        CHECK.due("two ECHOs", echoed.waiting(0, 0), 2);
        echoed.tick();
        CHECK.due("two ECHOs, and no ABORT", echoed.waiting(0, 0), 2);
        CHECK.due("nor on path 1", echoed.waiting(0, 1), 0);
        isClosed(echoed, 2);
    }
}
