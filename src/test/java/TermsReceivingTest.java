/** Terms, RECEIVING: the room where it is met, words that were had, and messages behind gaps. */
public final class TermsReceivingTest {
    private static final Check CHECK = new Check("terms, receiving");

    public static void main(String[] args) {
        aWordAboveAGapNeedsRoom();
        theNextWordNeedsNone();
        aDroppedWordIsNotHad();
        aFullRoomTakesNoWordThatWasHad();
        aWordThatWasReadIsHad();
        theWindowIsNeverBelowZero();
        anOrderedMessageDoesNotWaitForOtherStreams();
        anOrderedMessageWaitsForItsOwnStream();
        anUnorderedMessageWaitsForItsWordsOnly();
        aMessageEndsWithItsOwnLastWord();
        CHECK.finish();
    }

    /**
     * A link with some words ready at end 1 from a connection before, of which end 0 does not
     * know: its window is ROOM. Words 1 and 2 are under way on path 0, 3 and 4 on path 1.
     */
    private static StreamLink withKept(int room, int kept) {
        StreamLink link = Links.up(room, 9, 1, 12);
        link.send(0, 0, false, 10, kept);
        Links.settle(link, 0);
        link.abort(0);
        link.abort(1);
        Links.loseAll(link);
        Links.connect(link, 13);
        CHECK.due("kept", link.about(1, Links.KEPT), kept);
        link.send(0, 1, false, 20, 4);
        link.primary(0, 1);
        link.send(0, 2, true, 30, 1);
        CHECK.due("under way on path 0", link.waiting(0, 0), 2);
        CHECK.due("under way on path 1", link.waiting(0, 1), room < 4 ? room - 2 : 2);
        return link;
    }

    private static void aWordAboveAGapNeedsRoom() {
        StreamLink link = withKept(4, 2);
        link.alter(0, 0, false);
        link.deliver(0, 0);
        CHECK.due("with 2 of 4 kept, word 2 is kept", link.about(1, Links.KEPT), 3);
        link.deliver(0, 1);
        CHECK.due("with 3 of 4 kept, word 3 is kept", link.about(1, Links.KEPT), 4);
        CHECK.due("with 4 of 4 kept, DATA 4", link.deliver(0, 1), 4);
        CHECK.due("is dropped", link.about(1, Links.KEPT), 4);
        CHECK.due("each has a SACK", link.waiting(1, 0) + link.waiting(1, 1), 3);
        Links.deliver(link, 1, 1, 2);
        CHECK.due("word 2 is held", link.word(0, 2), 4);
        CHECK.due("word 3 is held", link.word(0, 3), 4);
        CHECK.due("word 4 is not", link.word(0, 4), 2);
        CHECK.due("window", link.about(0, Links.WINDOW), 0);
    }

    private static void theNextWordNeedsNone() {
        StreamLink link = withKept(4, 4);
        // Word 2 is the first to come, and there is no room; word 1 needs none.
        Links.toTheEnd(link, 0, 0);
        link.deliver(0, 0);
        CHECK.due("word 2 is dropped", link.about(1, Links.KEPT), 4);
        CHECK.due("latest", link.about(1, Links.LATEST), 0);
        link.deliver(0, 0);
        CHECK.due("word 1 is kept", link.about(1, Links.KEPT), 5);
        CHECK.due("latest", link.about(1, Links.LATEST), 1);
        CHECK.due("word 3, not the next one", link.deliver(0, 1), 4);
        CHECK.due("is dropped with 5 of 4 kept", link.about(1, Links.KEPT), 5);
        Links.deliver(link, 1, 0, 2);
        CHECK.due("the SACKs told so", link.word(0, 2), 2);
        CHECK.due("word 1 is gone", link.word(0, 1), 0);
    }

    private static void aDroppedWordIsNotHad() {
        StreamLink link = withKept(2, 2);
        link.alter(0, 0, true);
        Links.toTheEnd(link, 0, 0);
        link.alter(0, 0, true);
        // The row holds 2, 1, 1, 2: word 2 is dropped, then 1 and, as the next one, 2 are kept.
        link.deliver(0, 0);
        CHECK.due("word 2 is dropped", link.about(1, Links.KEPT), 2);
        link.deliver(0, 0);
        CHECK.due("word 1 is kept", link.about(1, Links.LATEST), 1);
        link.deliver(0, 0);
        CHECK.due("word 1 again is not", link.about(1, Links.KEPT), 3);
        link.deliver(0, 0);
        CHECK.due("word 2 is kept when it comes again", link.about(1, Links.LATEST), 2);
        CHECK.due("kept", link.about(1, Links.KEPT), 4);
    }

    private static void aFullRoomTakesNoWordThatWasHad() {
        StreamLink link = Links.up(2, 9, 1, 12);
        link.send(0, 0, false, 10, 2);
        link.alter(0, 0, true);
        Links.toTheEnd(link, 0, 0);
        Links.deliver(link, 0, 0, 3);
        CHECK.due("two words, of which one came twice", link.about(1, Links.KEPT), 2);
        CHECK.due("three SACKs", link.waiting(1, 0), 3);
        CHECK.due("one message", link.ready(1, 0), 1);
    }

    private static void aWordThatWasReadIsHad() {
        StreamLink link = Links.up(8, 9, 1, 12);
        link.send(0, 0, false, 10, 1);
        link.alter(0, 0, true);
        link.deliver(0, 0);
        CHECK.due("read", link.read(1, 0), 10);
        CHECK.due("DATA again", link.deliver(0, 0), 4);
        CHECK.due("not ready again", link.ready(1, 0), 0);
        CHECK.due("not kept again", link.about(1, Links.KEPT), 0);
        CHECK.due("latest", link.about(1, Links.LATEST), 1);
    }

    private static void theWindowIsNeverBelowZero() {
        StreamLink link = withKept(2, 4);
        link.deliver(0, 0);
        CHECK.due("five kept in a room of two", link.about(1, Links.KEPT), 5);
        link.deliver(1, 0);
        CHECK.due("window", link.about(0, Links.WINDOW), 0);
        CHECK.due("read", link.read(1, 0), 10);
        link.deliver(0, 0);
        CHECK.due("two kept in a room of two", link.about(1, Links.KEPT), 2);
        link.deliver(1, 0);
        CHECK.due("window", link.about(0, Links.WINDOW), 0);
    }

    private static void anOrderedMessageDoesNotWaitForOtherStreams() {
        StreamLink link = Links.up(16, 9, 1, 12);
        link.send(0, 0, false, 10, 1);
        link.send(0, 1, false, 20, 1);
        link.alter(0, 0, false);
        link.deliver(0, 0);
        CHECK.due("word 1 is not there", link.about(1, Links.LATEST), 0);
        CHECK.due("stream 1 has its next order", link.ready(1, 1), 1);
        CHECK.due("and is read above the gap", link.read(1, 1), 20);
        CHECK.due("stream 0 has nothing", link.ready(1, 0), 0);
    }

    private static void anOrderedMessageWaitsForItsOwnStream() {
        StreamLink link = Links.up(16, 9, 1, 12);
        link.send(0, 1, false, 10, 1);
        link.send(0, 1, false, 20, 1);
        Links.toTheEnd(link, 0, 0);
        link.deliver(0, 0);
        CHECK.due("whole, but not its order", link.ready(1, 1), 0);
        CHECK.due("it is kept", link.about(1, Links.KEPT), 1);
        CHECK.due("and has no length", link.length(1, 1), 0);
        CHECK.due("nor can it be read", link.read(1, 1), 0);
        link.deliver(0, 0);
        CHECK.due("both", link.ready(1, 1), 2);
        CHECK.due("the first", link.read(1, 1), 10);
        CHECK.due("the second", link.read(1, 1), 20);
    }

    private static void anUnorderedMessageWaitsForItsWordsOnly() {
        StreamLink link = Links.up(16, 9, 1, 12);
        link.send(0, 0, false, 10, 2);
        link.send(0, 0, true, 20, 2);
        link.primary(0, 1);
        link.send(0, 1, true, 30, 1);
        CHECK.due("words 3 and 4 are on path 1", link.waiting(0, 1), 2);
        link.deliver(0, 1);
        CHECK.due("half of it", link.ready(1, 0), 0);
        link.deliver(0, 1);
        CHECK.due("all of it, with nothing before it", link.ready(1, 0), 1);
        CHECK.due("length", link.length(1, 0), 2);
        CHECK.due("latest", link.about(1, Links.LATEST), 0);
        CHECK.due("read", link.read(1, 0), 20);
        CHECK.due("kept", link.about(1, Links.KEPT), 0);
    }

    private static void aMessageEndsWithItsOwnLastWord() {
        StreamLink link = Links.up(16, 9, 1, 12);
        for (int n = 1; n <= 4; n++) {
            link.send(0, 0, n % 2 == 0, 10 * n, n);
        }
        Links.settle(link, 0);
        CHECK.due("four messages", link.ready(1, 0), 4);
        for (int n = 1; n <= 4; n++) {
            CHECK.due("length", link.length(1, 0), n);
            CHECK.due("read", link.read(1, 0), 10 * n);
        }
        CHECK.due("nothing left", link.about(1, Links.KEPT), 0);
    }
}
