/** Promises 8 to 10: read, ready and length. */
public final class Promise08To10ReadTest {
    private static final Check CHECK = new Check("promises 8 to 10");

    public static void main(String[] args) {
        thereIsNoSuchEndOrStream();
        nothingIsReady();
        messagesAreReadInTurn();
        readingFreesTheRoom();
        streamsAreApart();
        readyMessagesOutliveTheConnection();
        manyMessagesWait();
        CHECK.finish();
    }

    private static void thereIsNoSuchEndOrStream() {
        StreamLink link = oneMessageInEveryStream();
        int[] wrongEnds = {-1, 2, Integer.MIN_VALUE, Integer.MAX_VALUE};
        int[] wrongStreams = {-1, 3, Integer.MIN_VALUE, Integer.MAX_VALUE};
        for (int end : wrongEnds) {
            CHECK.due("ready at " + end, link.ready(end, 0), StreamLink.NONE);
            CHECK.due("read at " + end, link.read(end, 0), 0);
            CHECK.due("length at " + end, link.length(end, 0), 0);
        }
        for (int stream : wrongStreams) {
            CHECK.due("ready of " + stream, link.ready(1, stream), StreamLink.NONE);
            CHECK.due("read of " + stream, link.read(1, stream), 0);
            CHECK.due("length of " + stream, link.length(1, stream), 0);
        }
        CHECK.due("nothing was read", link.about(1, Links.KEPT), 6);
    }

    /** A link with messages of 1, 2 and 3 words in streams 0, 1 and 2, ready at end 1. */
    private static StreamLink oneMessageInEveryStream() {
        StreamLink link = Links.up(16, 9, 1, 12);
        for (int stream = 0; stream < 3; stream++) {
            link.send(0, stream, false, 10 * stream + 5, stream + 1);
        }
        Links.settle(link, 0);
        return link;
    }

    private static void nothingIsReady() {
        StreamLink link = Links.up(16, 9, 1, 12);
        link.send(0, 0, false, 9, 2);
        link.deliver(0, 0);
        CHECK.due("half a message is not ready", link.ready(1, 0), 0);
        CHECK.due("read", link.read(1, 0), 0);
        CHECK.due("length", link.length(1, 0), 0);
        CHECK.due("it stays kept", link.about(1, Links.KEPT), 1);
        link.deliver(0, 0);
        CHECK.due("ready", link.ready(1, 0), 1);
        CHECK.due("read", link.read(1, 0), 9);
        CHECK.due("ready no more", link.ready(1, 0), 0);
        CHECK.due("read again", link.read(1, 0), 0);
        CHECK.due("length again", link.length(1, 0), 0);
    }

    private static void messagesAreReadInTurn() {
        StreamLink link = Links.up(16, 9, 1, 12);
        int[] lengths = {3, 1, 4, 2};
        for (int i = 0; i < lengths.length; i++) {
            link.send(0, 1, i % 2 == 1, 100 * (i + 1), lengths[i]);
        }
        Links.settle(link, 0);
        for (int i = 0; i < lengths.length; i++) {
            CHECK.due("ready", link.ready(1, 1), lengths.length - i);
            CHECK.due("length", link.length(1, 1), lengths[i]);
            CHECK.due("length again", link.length(1, 1), lengths[i]);
            CHECK.due("read", link.read(1, 1), 100 * (i + 1));
        }
    }

    private static void readingFreesTheRoom() {
        StreamLink link = oneMessageInEveryStream();
        CHECK.due("kept", link.about(1, Links.KEPT), 6);
        CHECK.due("read", link.read(1, 2), 25);
        CHECK.due("kept", link.about(1, Links.KEPT), 3);
        CHECK.due("read", link.read(1, 0), 5);
        CHECK.due("kept", link.about(1, Links.KEPT), 2);
        CHECK.due("read", link.read(1, 1), 15);
        CHECK.due("kept", link.about(1, Links.KEPT), 0);
        CHECK.due("no SACK", link.waiting(1, 0) + link.waiting(1, 1), 0);
    }

    private static void streamsAreApart() {
        StreamLink link = oneMessageInEveryStream();
        for (int stream = 0; stream < 3; stream++) {
            CHECK.due("ready", link.ready(1, stream), 1);
            CHECK.due("length", link.length(1, stream), stream + 1);
            CHECK.due("not at end 0", link.ready(0, stream), 0);
        }
        link.read(1, 1);
        CHECK.due("stream 0", link.ready(1, 0), 1);
        CHECK.due("stream 1", link.ready(1, 1), 0);
        CHECK.due("stream 2", link.ready(1, 2), 1);
    }

    private static void readyMessagesOutliveTheConnection() {
        StreamLink link = oneMessageInEveryStream();
        link.send(0, 0, false, 50, 2);
        link.deliver(0, 0);
        CHECK.due("kept with half a message", link.about(1, Links.KEPT), 7);
        link.abort(1);
        CHECK.due("that is gone", link.about(1, Links.KEPT), 6);
        CHECK.due("ready", link.ready(1, 2), 1);
        CHECK.due("length", link.length(1, 2), 3);
        CHECK.due("read", link.read(1, 2), 25);
        CHECK.due("kept", link.about(1, Links.KEPT), 3);
        link.abort(0);
        Links.loseAll(link);
        Links.connect(link, 13);
        CHECK.due("kept when up again", link.about(1, Links.KEPT), 3);
        link.send(0, 0, false, 60, 2);
        Links.settle(link, 0);
        CHECK.due("ready", link.ready(1, 0), 2);
        CHECK.due("kept", link.about(1, Links.KEPT), 5);
        CHECK.due("window counts them all", link.about(0, Links.WINDOW), 11);
        CHECK.due("read", link.read(1, 0), 5);
        CHECK.due("read", link.read(1, 0), 60);
    }

    private static void manyMessagesWait() {
        StreamLink link = Links.up(2, 9, 1, 12);
        for (int i = 0; i < 100; i++) {
            link.send(0, i % 3, false, i, 1);
            link.deliver(0, 0);
            link.deliver(1, 0);
        }
        CHECK.due("all are kept, far beyond the room", link.about(1, Links.KEPT), 100);
        for (int i = 0; i < 100; i++) {
            CHECK.due("read", link.read(1, i % 3), i);
        }
    }
}
