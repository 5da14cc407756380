/** Promise 4, deliver: what DATA does at the end where it arrives, and the SACK that it gets. */
public final class Promise04DataTest {
    private static final Check CHECK = new Check("promise 4, data");

    public static void main(String[] args) {
        aMessageIsReadyWhenWhole();
        ordersAreKeptInEachStream();
        unorderedMessagesDoNotWait();
        unorderedMessagesHaveNoOrder();
        aMessageNeedsItsFirstWord();
        longMessagesLeaveTheirNeighboursAlone();
        severalBecomeReadyByNumbers();
        aWordThatCameBeforeIsDropped();
        aWordThatCameBeforeAboveAGapIsDropped();
        aFullRoomTakesTheNextWordOnly();
        gapsReachSixteenFar();
        aFilledGapLetsFifteenFollow();
        theFurthestGapStrikesAllBelow();
        theSackGoesBackOnItsPath();
        theWindowIsWhatIsLeft();
        dataForAnotherConnectionDoesNothing();
        CHECK.finish();
    }

    private static void aMessageIsReadyWhenWhole() {
        StreamLink link = Links.up(16, 9, 1, 12);
        link.send(0, 2, false, 40, 4);
        for (int i = 1; i <= 4; i++) {
            CHECK.due("not ready yet", link.ready(1, 2), 0);
            CHECK.due("DATA", link.deliver(0, 0), 4);
            CHECK.due("SACK", link.deliver(1, 0), 5);
            CHECK.due("latest", link.about(1, Links.LATEST), i);
            CHECK.due("kept", link.about(1, Links.KEPT), i);
        }
        CHECK.due("ready", link.ready(1, 2), 1);
        CHECK.due("length", link.length(1, 2), 4);
        CHECK.due("not in another stream", link.ready(1, 0) + link.ready(1, 1), 0);
        CHECK.due("not at the sender", link.ready(0, 2), 0);
    }

    private static void ordersAreKeptInEachStream() {
        StreamLink link = Links.up(16, 9, 1, 12);
        link.send(0, 0, false, 10, 1);
        link.send(0, 0, false, 20, 1);
        link.send(0, 1, false, 30, 1);
        link.send(0, 0, false, 40, 1);
        // Word 1 goes to the end of the row and word 2 arrives first.
        link.alter(0, 0, true);
        link.alter(0, 0, false);
        link.deliver(0, 0);
        CHECK.due("stream 0 waits for its order", link.ready(1, 0), 0);
        CHECK.due("latest", link.about(1, Links.LATEST), 0);
        CHECK.due("kept", link.about(1, Links.KEPT), 1);
        link.deliver(1, 0);
        link.alter(0, 0, true);
        link.alter(0, 0, false);
        link.deliver(0, 0);
        CHECK.due("stream 1 does not wait for stream 0", link.ready(1, 1), 1);
        CHECK.due("stream 0 still waits", link.ready(1, 0), 0);
        link.deliver(0, 0);
        CHECK.due("with two messages", link.ready(1, 0), 0);
        link.deliver(0, 0);
        CHECK.due("all of stream 0", link.ready(1, 0), 3);
        CHECK.due("latest", link.about(1, Links.LATEST), 4);
        CHECK.due("first", link.read(1, 0), 10);
        CHECK.due("second", link.read(1, 0), 20);
        CHECK.due("third", link.read(1, 0), 40);
    }

    private static void unorderedMessagesDoNotWait() {
        StreamLink link = Links.up(16, 9, 1, 12);
        link.send(0, 0, false, 10, 1);
        link.send(0, 0, true, 20, 1);
        link.alter(0, 0, true);
        link.alter(0, 0, false);
        link.deliver(0, 0);
        CHECK.due("ready above the gap", link.ready(1, 0), 1);
        CHECK.due("latest", link.about(1, Links.LATEST), 0);
        link.deliver(0, 0);
        CHECK.due("both", link.ready(1, 0), 2);
        CHECK.due("latest", link.about(1, Links.LATEST), 2);
        CHECK.due("it was ready first", link.read(1, 0), 20);
        CHECK.due("then the other", link.read(1, 0), 10);
    }

    private static void unorderedMessagesHaveNoOrder() {
        StreamLink link = Links.up(16, 9, 1, 12);
        link.send(0, 0, true, 10, 1);
        link.send(0, 0, false, 20, 1);
        link.send(0, 0, true, 30, 1);
        link.send(0, 0, false, 40, 1);
        Links.settle(link, 0);
        int[] values = {10, 20, 30, 40};
        for (int value : values) {
            CHECK.due("read", link.read(1, 0), value);
        }
    }

    private static void aMessageNeedsItsFirstWord() {
        StreamLink link = Links.up(16, 9, 1, 12);
        link.send(0, 0, true, 10, 3);
        link.alter(0, 0, false);
        for (int i = 0; i < 2; i++) {
            link.deliver(0, 0);
            link.deliver(1, 0);
        }
        CHECK.due("words 2 and 3 are kept", link.about(1, Links.KEPT), 2);
        CHECK.due("but no message", link.ready(1, 0), 0);
        Links.ticks(link, 3);
        link.deliver(0, 1);
        CHECK.due("word 1 makes it whole", link.length(1, 0), 3);
        CHECK.due("read", link.read(1, 0), 10);
    }

    private static void longMessagesLeaveTheirNeighboursAlone() {
        StreamLink link = Links.up(16, 9, 1, 12);
        link.send(0, 0, false, 10, 2);
        link.send(0, 1, true, 20, 2);
        link.send(0, 0, false, 30, 1);
        link.alter(0, 0, false);
        for (int i = 0; i < 4; i++) {
            link.deliver(0, 0);
            link.deliver(1, 0);
        }
        CHECK.due("the unordered one is ready", link.length(1, 1), 2);
        CHECK.due("all but word 1 are kept", link.about(1, Links.KEPT), 4);
        CHECK.due("read", link.read(1, 1), 20);
        link.deliver(0, 1);
        CHECK.due("the messages around it are ready", link.ready(1, 0), 2);
        CHECK.due("length", link.length(1, 0), 2);
        CHECK.due("read", link.read(1, 0), 10);
        CHECK.due("read", link.read(1, 0), 30);
        CHECK.due("nothing kept", link.about(1, Links.KEPT), 0);
    }

    private static void severalBecomeReadyByNumbers() {
        StreamLink link = Links.up(16, 9, 1, 12);
        link.send(0, 0, false, 10, 1);
        link.send(0, 0, false, 20, 2);
        link.send(0, 0, true, 30, 1);
        link.send(0, 0, false, 40, 1);
        link.alter(0, 0, false);
        for (int i = 0; i < 4; i++) {
            link.deliver(0, 0);
            link.deliver(1, 0);
        }
        CHECK.due("only the unordered one", link.ready(1, 0), 1);
        CHECK.due("unready words are kept too", link.about(1, Links.KEPT), 4);
        CHECK.due("word 1 was marked by strikes and is out on path 1", link.deliver(0, 1), 4);
        CHECK.due("all ready", link.ready(1, 0), 4);
        int[] values = {30, 10, 20, 40};
        for (int value : values) {
            CHECK.due("read", link.read(1, 0), value);
        }
        CHECK.due("nothing kept", link.about(1, Links.KEPT), 0);
    }

    private static void aWordThatCameBeforeIsDropped() {
        StreamLink link = Links.up(16, 9, 1, 12);
        link.send(0, 0, false, 10, 1);
        link.alter(0, 0, true);
        link.deliver(0, 0);
        link.deliver(0, 0);
        CHECK.due("one message", link.ready(1, 0), 1);
        CHECK.due("one word", link.about(1, Links.KEPT), 1);
        CHECK.due("two SACKs", link.waiting(1, 0), 2);
        link.read(1, 0);
        CHECK.due("nothing kept", link.about(1, Links.KEPT), 0);
    }

    private static void aWordThatCameBeforeAboveAGapIsDropped() {
        StreamLink link = Links.up(16, 9, 1, 12);
        link.send(0, 0, false, 10, 1);
        link.send(0, 0, true, 20, 1);
        link.alter(0, 0, false);
        link.alter(0, 0, true);
        link.deliver(0, 0);
        CHECK.due("read", link.read(1, 0), 20);
        link.deliver(0, 0);
        CHECK.due("it was had, though read", link.ready(1, 0), 0);
        CHECK.due("and is not kept again", link.about(1, Links.KEPT), 0);
        CHECK.due("two SACKs", link.waiting(1, 0), 2);
    }

    private static void aFullRoomTakesTheNextWordOnly() {
        StreamLink link = Links.up(2, 9, 1, 12);
        // Rate and window let words 1 and 2 go; word 1 is lost.
        link.send(0, 0, false, 10, 4);
        link.alter(0, 0, false);
        link.deliver(0, 0);
        link.deliver(1, 0);
        CHECK.due("window", link.about(0, Links.WINDOW), 1);
        // After 3 ticks word 1 goes on path 1 and fills the room.
        Links.ticks(link, 3);
        link.alter(0, 1, true);
        link.deliver(0, 1);
        CHECK.due("kept", link.about(1, Links.KEPT), 2);
        link.deliver(1, 1);
        CHECK.due("window 0", link.about(0, Links.WINDOW), 0);
        CHECK.due("word 3 goes into the closed window", link.word(0, 3), 2);
        link.deliver(0, 0);
        CHECK.due("it is the next one, so it is kept", link.about(1, Links.KEPT), 3);
        link.deliver(1, 0);
        link.deliver(0, 0);
        CHECK.due("and the last one, too", link.about(1, Links.KEPT), 4);
        CHECK.due("the message is whole", link.length(1, 0), 4);
        aFullRoomDropsWordsAboveAGap();
    }

    private static void aFullRoomDropsWordsAboveAGap() {
        StreamLink link = Links.up(2, 9, 1, 12);
        // Room 2 is filled with ready messages of an older connection; the window says 2 anyway.
        link.send(0, 0, false, 10, 2);
        Links.settle(link, 0);
        link.abort(0);
        link.abort(1);
        Links.loseAll(link);
        Links.connect(link, 13);
        CHECK.due("kept from before", link.about(1, Links.KEPT), 2);
        CHECK.due("window at first", link.about(0, Links.WINDOW), 2);
        link.send(0, 1, true, 20, 1);
        link.send(0, 1, true, 30, 1);
        link.alter(0, 0, true);
        link.alter(0, 0, false);
        CHECK.due("DATA with number 2", link.deliver(0, 0), 4);
        CHECK.due("is dropped", link.ready(1, 1), 0);
        CHECK.due("SACK", link.waiting(1, 0), 1);
        CHECK.due("DATA with number 1", link.deliver(0, 0), 4);
        CHECK.due("is kept", link.ready(1, 1), 1);
        CHECK.due("latest", link.about(1, Links.LATEST), 1);
        link.deliver(1, 0);
        CHECK.due("word 2 was not had", link.word(0, 2), 2);
        CHECK.due("window", link.about(0, Links.WINDOW), 0);
    }

    private static void gapsReachSixteenFar() {
        StreamLink link = wideOpenLink();
        for (int number = 13; number <= 28; number++) {
            link.primary(0, number <= 20 ? 1 : 0);
            link.send(0, 1, true, 100 + number, 1);
        }
        CHECK.due("8 out on path 0", link.path(0, 0, Links.OUT_ON), 8);
        CHECK.due("8 out on path 1", link.path(0, 1, Links.OUT_ON), 8);
        link.alter(0, 1, false);
        deliverAndRead(link, 1, 7);
        deliverAndRead(link, 0, 8);
        CHECK.due("latest", link.about(1, Links.LATEST), 12);
        // The last SACK tells of all, so that word 13 has one strike alone.
        Links.lose(link, 1, 0, 7);
        link.deliver(1, 0);
        for (int number = 13; number <= 28; number++) {
            CHECK.due("word " + number, link.word(0, number), number == 13 ? 2 : 4);
        }
        link.send(0, 1, true, 129, 1);
        CHECK.due("word 29 goes", link.deliver(0, 0), 4);
        CHECK.due("but is 17 above 12", link.ready(1, 1), 0);
        CHECK.due("and not kept", link.about(1, Links.KEPT), 0);
        CHECK.due("SACK all the same", link.deliver(1, 0), 5);
        CHECK.due("word 29 was not had", link.word(0, 29), 2);
    }

    private static void aFilledGapLetsFifteenFollow() {
        StreamLink link = wideOpenLink();
        for (int number = 13; number <= 28; number++) {
            link.primary(0, number <= 20 ? 1 : 0);
            link.send(0, 1, true, 100 + number, 1);
        }
        link.alter(0, 1, false);
        deliverAndRead(link, 1, 7);
        deliverAndRead(link, 0, 8);
        Links.loseAllFrom(link, 1);
        CHECK.due("latest without word 13", link.about(1, Links.LATEST), 12);
        // No SACK came, so all are marked at 3, and word 13 goes first, on path 0.
        Links.ticks(link, 3);
        CHECK.due("word 13", link.deliver(0, 0), 4);
        CHECK.due("latest", link.about(1, Links.LATEST), 28);
        CHECK.due("read", link.read(1, 1), 113);
        CHECK.due("its SACK", link.deliver(1, 0), 5);
        CHECK.due("tells of all", link.about(0, Links.TO_SEND), 0);
    }

    private static void theFurthestGapStrikesAllBelow() {
        StreamLink link = wideOpenLink();
        for (int number = 13; number <= 28; number++) {
            link.primary(0, number <= 20 ? 1 : 0);
            link.send(0, 1, true, 100 + number, 1);
        }
        Links.lose(link, 0, 0, 7);
        link.alter(0, 0, true);
        link.alter(0, 0, true);
        Links.deliver(link, 0, 0, 3);
        Links.deliver(link, 1, 0, 2);
        CHECK.due("word 28 is held", link.word(0, 28), 4);
        CHECK.due("word 27 has two strikes", link.word(0, 27), 2);
        link.deliver(1, 0);
        CHECK.due("and a third one", link.word(0, 27), 3);
        CHECK.due("rate of path 0", link.path(0, 0, Links.RATE), 1);
        CHECK.due("rate of path 1", link.path(0, 1, Links.RATE), 1);
        CHECK.due("word 13 goes on path 0", link.path(0, 0, Links.OUT_ON), 1);
        CHECK.due("word 14 has no place there", link.word(0, 14), 3);
    }

    /** A link that has had 12 words, with rate 8 on both paths of end 0, and window 16. */
    private static StreamLink wideOpenLink() {
        StreamLink link = Links.up(16, 9, 1, 12);
        for (int i = 0; i < 12; i++) {
            int path = i < 6 ? 0 : 1;
            link.primary(0, path);
            link.send(0, 1, true, i, 1);
            link.alter(0, path, true);
            deliverAndRead(link, path, 2);
            Links.settle(link, path);
        }
        CHECK.due("rate of path 0", link.path(0, 0, Links.RATE), 8);
        CHECK.due("rate of path 1", link.path(0, 1, Links.RATE), 8);
        CHECK.due("window", link.about(0, Links.WINDOW), 16);
        return link;
    }

    private static void deliverAndRead(StreamLink link, int path, int count) {
        for (int i = 0; i < count; i++) {
            link.deliver(0, path);
            link.read(1, 1);
        }
    }

    private static void theSackGoesBackOnItsPath() {
        StreamLink link = Links.up(16, 9, 1, 12);
        link.primary(0, 1);
        link.send(0, 0, false, 1, 1);
        CHECK.due("DATA on path 1", link.deliver(0, 1), 4);
        CHECK.due("no SACK on path 0", link.waiting(1, 0), 0);
        CHECK.due("SACK on path 1", link.deliver(1, 1), 5);
        CHECK.due("word 1 is gone", link.word(0, 1), 0);
    }

    private static void theWindowIsWhatIsLeft() {
        StreamLink link = Links.up(3, 9, 1, 12);
        int[] windows = {2, 1, 0, 0, 0};
        for (int i = 0; i < windows.length; i++) {
            link.send(0, 0, false, i + 1, 1);
            Links.settle(link, 0);
            CHECK.due("window after " + (i + 1), link.about(0, Links.WINDOW), windows[i]);
        }
        CHECK.due("five kept", link.about(1, Links.KEPT), 5);
        for (int i = 0; i < 4; i++) {
            link.read(1, 0);
        }
        CHECK.due("reading sends no SACK", link.waiting(1, 0), 0);
        CHECK.due("so the window is as before", link.about(0, Links.WINDOW), 0);
        link.send(0, 0, false, 6, 1);
        Links.settle(link, 0);
        CHECK.due("window in the next SACK", link.about(0, Links.WINDOW), 1);
    }

    private static void dataForAnotherConnectionDoesNothing() {
        StreamLink link = Links.up(16, 9, 1, 12);
        link.send(0, 0, false, 10, 1);
        link.send(1, 0, false, 20, 1);
        link.abort(0);
        CHECK.due("DATA at a closed end", link.deliver(1, 0), 4);
        CHECK.due("no SACK, only DATA and ABORT are there", link.waiting(0, 0), 2);
        CHECK.due("nothing ready", link.ready(0, 0), 0);
        link.alter(0, 0, true);
        link.alter(0, 0, false);
        CHECK.due("ABORT", link.deliver(0, 0), 8);
        CHECK.due("end 1 closed", link.about(1, Links.STATE), Links.CLOSED);
        link.open(13);
        link.alter(0, 0, true);
        link.alter(0, 0, false);
        Links.connect(link, 13);
        Links.settle(link, 0);
        CHECK.due("old DATA has another tag", link.ready(1, 0), 0);
        CHECK.due("and no number of this connection", link.about(1, Links.LATEST), 0);
        CHECK.due("both are up", link.about(0, Links.STATE) + link.about(1, Links.STATE), 6);
    }
}
