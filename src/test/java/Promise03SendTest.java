/** Promise 3: send, and what SENDING says of rates, windows, orders and paths. */
public final class Promise03SendTest {
    private static final Check CHECK = new Check("promise 3");

    public static void main(String[] args) {
        wrongInputsAreRefused();
        onlyAnEndThatIsUpSends();
        theRateBoundsWhatIsOut();
        theWindowBoundsNewWords();
        oneWordGoesIntoAClosedWindow();
        atMostTwentyFourWords();
        heldWordsCount();
        wordsGoOnThePathToUse();
        theTimerStartsWithTheFirstWord();
        aFullRowLosesThePacketOnly();
        bothEndsSend();
        valuesWrap();
        CHECK.finish();
    }

    private static void wrongInputsAreRefused() {
        StreamLink link = Links.up(8, 5, 1, 12);
        int[] noEnds = {-1, 2, Integer.MIN_VALUE, Integer.MAX_VALUE};
        for (int end : noEnds) {
            CHECK.due("send from end " + end, link.send(end, 0, false, 1, 1), false);
        }
        int[] noStreams = {-1, 3, Integer.MIN_VALUE, Integer.MAX_VALUE};
        for (int stream : noStreams) {
            CHECK.due("send in stream " + stream, link.send(0, stream, false, 1, 1), false);
        }
        int[] noLengths = {0, -1, 5, Integer.MIN_VALUE, Integer.MAX_VALUE};
        for (int n : noLengths) {
            CHECK.due("send of " + n + " words", link.send(0, 0, false, 1, n), false);
        }
        CHECK.due("nothing to send", link.about(0, Links.TO_SEND), 0);
        CHECK.due("nothing under way", link.waiting(0, 0), 0);
        for (int n = 1; n <= 4; n++) {
            CHECK.due("send of " + n + " words", link.send(0, n % 3, n == 2, 1, n), true);
        }
        CHECK.due("ten to send", link.about(0, Links.TO_SEND), 10);
    }

    private static void onlyAnEndThatIsUpSends() {
        StreamLink link = new StreamLink(8, 5, 1);
        CHECK.due("send when closed", link.send(0, 0, false, 1, 1), false);
        link.open(12);
        CHECK.due("send when waiting", link.send(0, 0, false, 1, 1), false);
        link.deliver(0, 0);
        link.deliver(1, 0);
        CHECK.due("send when echoed", link.send(0, 0, false, 1, 1), false);
        CHECK.due("end 1 is not up yet", link.send(1, 0, false, 1, 1), false);
        link.deliver(0, 0);
        CHECK.due("end 1 is up", link.send(1, 0, false, 1, 1), true);
        link.deliver(1, 0);
        CHECK.due("end 0 is up", link.send(0, 0, false, 1, 1), true);
        link.abort(0);
        CHECK.due("send when closed again", link.send(0, 0, false, 1, 1), false);
    }

    private static void theRateBoundsWhatIsOut() {
        StreamLink link = Links.up(16, 5, 1, 12);
        link.send(0, 0, false, 1, 1);
        CHECK.due("out", link.path(0, 0, Links.OUT_ON), 1);
        link.send(0, 0, false, 2, 4);
        CHECK.due("out", link.path(0, 0, Links.OUT_ON), 2);
        int[] states = {2, 2, 1, 1, 1, 0};
        for (int i = 0; i < states.length; i++) {
            CHECK.due("word " + (i + 1), link.word(0, i + 1), states[i]);
        }
        CHECK.due("under way", link.waiting(0, 0), 2);
        CHECK.due("nothing on the other path", link.waiting(0, 1), 0);
    }

    private static void theWindowBoundsNewWords() {
        StreamLink link = Links.up(4, 9, 1, 12);
        link.send(0, 0, false, 1, 4);
        link.send(0, 0, false, 5, 4);
        Links.deliver(link, 0, 0, 2);
        // The SACKs say 1 with window 3, then 2 with window 2; rate 4 would let more go.
        Links.deliver(link, 1, 0, 2);
        CHECK.due("rate", link.path(0, 0, Links.RATE), 4);
        CHECK.due("window", link.about(0, Links.WINDOW), 2);
        CHECK.due("word 4", link.word(0, 4), 2);
        CHECK.due("word 5", link.word(0, 5), 1);
        CHECK.due("out", link.path(0, 0, Links.OUT_ON), 2);
    }

    private static void oneWordGoesIntoAClosedWindow() {
        StreamLink link = Links.up(2, 9, 1, 12);
        link.send(0, 0, false, 1, 2);
        Links.settle(link, 0);
        CHECK.due("window", link.about(0, Links.WINDOW), 0);
        link.send(0, 0, false, 3, 4);
        CHECK.due("one goes", link.word(0, 3), 2);
        CHECK.due("the next does not", link.word(0, 4), 1);
        Links.deliver(link, 0, 0, 1);
        CHECK.due("it is kept beyond the room", link.about(1, Links.KEPT), 3);
        Links.deliver(link, 1, 0, 1);
        CHECK.due("window stays 0", link.about(0, Links.WINDOW), 0);
        CHECK.due("then the next one goes", link.word(0, 4), 2);
        CHECK.due("and no other", link.word(0, 5), 1);
    }

    private static void atMostTwentyFourWords() {
        StreamLink link = Links.up(16, 5, 1, 12);
        for (int i = 0; i < 5; i++) {
            CHECK.due("send 4", link.send(0, 0, false, 1, 4), true);
        }
        CHECK.due("send 3", link.send(0, 0, false, 1, 3), true);
        CHECK.due("23 and 2 are too many", link.send(0, 0, false, 1, 2), false);
        CHECK.due("23 to send", link.about(0, Links.TO_SEND), 23);
        CHECK.due("23 and 1 are not", link.send(0, 0, false, 1, 1), true);
        CHECK.due("24 and 1 are", link.send(0, 0, false, 1, 1), false);
        CHECK.due("24 to send", link.about(0, Links.TO_SEND), 24);
        CHECK.due("word 24", link.word(0, 24), 1);
        CHECK.due("word 25", link.word(0, 25), 0);
        link.deliver(0, 0);
        link.deliver(1, 0);
        CHECK.due("one is gone", link.send(0, 0, false, 1, 1), true);
        CHECK.due("word 25", link.word(0, 25), 1);
    }

    private static void heldWordsCount() {
        StreamLink link = Links.up(16, 5, 1, 12);
        for (int i = 0; i < 6; i++) {
            link.send(0, 0, false, 1, 4);
        }
        link.alter(0, 0, false);
        link.deliver(0, 0);
        link.deliver(1, 0);
        CHECK.due("word 2 is held", link.word(0, 2), 4);
        CHECK.due("still 24", link.about(0, Links.TO_SEND), 24);
        CHECK.due("no room", link.send(0, 0, false, 1, 1), false);
    }

    private static void wordsGoOnThePathToUse() {
        StreamLink link = Links.up(16, 9, 1, 12);
        link.primary(0, 1);
        link.send(0, 0, false, 1, 3);
        CHECK.due("on path 0", link.waiting(0, 0), 0);
        CHECK.due("on path 1", link.waiting(0, 1), 2);
        CHECK.due("out on path 1", link.path(0, 1, Links.OUT_ON), 2);
        CHECK.due("out on path 0", link.path(0, 0, Links.OUT_ON), 0);
        link.primary(0, 0);
        CHECK.due("primary alone sends nothing", link.waiting(0, 0), 0);
        link.send(0, 0, false, 4, 1);
        CHECK.due("word 3 goes on path 0", link.path(0, 0, Links.OUT_ON), 2);
    }

    private static void theTimerStartsWithTheFirstWord() {
        StreamLink link = Links.up(16, 9, 1, 12);
        CHECK.due("timer", link.path(0, 0, Links.TIMER), 0);
        link.send(0, 0, false, 1, 1);
        CHECK.due("timer", link.path(0, 0, Links.TIMER), 1);
        CHECK.due("timer of the other path", link.path(0, 1, Links.TIMER), 0);
        Links.ticks(link, 2);
        link.send(0, 0, false, 2, 1);
        link.tick();
        CHECK.due("the second word did not start it anew", link.path(0, 0, Links.ERRORS), 1);
    }

    private static void aFullRowLosesThePacketOnly() {
        StreamLink link = Links.up(16, 9, 1, 12);
        for (int i = 0; i < 7; i++) {
            link.forge(1, 0, 0, 5, 0, 0, 0);
        }
        link.send(0, 0, false, 1, 2);
        CHECK.due("row", link.waiting(0, 0), 8);
        CHECK.due("word 1", link.word(0, 1), 2);
        CHECK.due("word 2 is out though lost", link.word(0, 2), 2);
        Links.deliver(link, 0, 0, 8);
        CHECK.due("only word 1 came", link.about(1, Links.LATEST), 1);
    }

    private static void bothEndsSend() {
        StreamLink link = Links.up(16, 9, 1, 12);
        link.send(1, 2, false, 70, 1);
        link.send(0, 2, false, 80, 1);
        CHECK.due("DATA from end 1", link.deliver(1, 0), 4);
        CHECK.due("DATA from end 0", link.deliver(0, 0), 4);
        CHECK.due("read at end 0", link.read(0, 2), 70);
        CHECK.due("read at end 1", link.read(1, 2), 80);
    }

    private static void valuesWrap() {
        StreamLink link = Links.up(16, 9, 1, 12);
        link.send(0, 0, false, Integer.MAX_VALUE, 2);
        link.send(0, 0, false, Integer.MIN_VALUE, 1);
        Links.settle(link, 0);
        CHECK.due("length", link.length(1, 0), 2);
        CHECK.due("greatest value", link.read(1, 0), Integer.MAX_VALUE);
        CHECK.due("least value", link.read(1, 0), Integer.MIN_VALUE);
    }
}
