/** Terms, SENDING: the path to use, and the bounds of rate and window where they are met. */
public final class TermsSendingTest {
    private static final Check CHECK = new Check("terms, sending");

    public static void main(String[] args) {
        theOtherPathIsUsedIfThePrimaryIsNotActive();
        thePrimaryPathIsUsedIfNeitherIsActive();
        aMarkedWordGoesOnThePathToUseIfTheOtherIsNotActive();
        aMarkedWordGoesOnThePrimaryPathIfNeitherIsActive();
        aMarkedWordGoesBackAndForth();
        aFullPathIsNotEvaded();
        theWindowCountsWordsOnBothPaths();
        theWindowIsMetExactly();
        aWordGoesIntoAClosedWindowOnlyIfNoneIsOutAnywhere();
        heldWordsAreNotInTheWindow();
        markedWordsAreNotBoundByTheWindow();
        aRefusedMessageTakesNoOrderAndNoNumber();
        theTimerIsDueAfterThePathsOwnWait();
        CHECK.finish();
    }

    /** At 32 both paths of both ends have three errors. */
    private static StreamLink withBothFailed() {
        StreamLink link = Links.up(16, 9, 1, 12);
        Links.ticks(link, 32);
        Links.loseAll(link);
        CHECK.due("path 0", link.path(0, 0, Links.ACTIVE), 0);
        CHECK.due("path 1", link.path(0, 1, Links.ACTIVE), 0);
        CHECK.due("all errors", link.about(0, Links.ALL_ERRORS), 6);
        return link;
    }

    private static void theOtherPathIsUsedIfThePrimaryIsNotActive() {
        for (int failed = 0; failed < 2; failed++) {
            StreamLink link = Links.withOneFailed(9, failed);
            CHECK.due("failed", link.path(0, failed, Links.ACTIVE), 0);
            CHECK.due("well", link.path(0, 1 - failed, Links.ACTIVE), 1);
            for (int primary = 0; primary < 2; primary++) {
                link.primary(0, primary);
                CHECK.due("path to use", link.about(0, Links.TO_USE), 1 - failed);
            }
            link.primary(0, failed);
            link.send(0, 0, false, 1, 1);
            CHECK.due("a word goes there", link.path(0, 1 - failed, Links.OUT_ON), 1);
        }
    }

    private static void thePrimaryPathIsUsedIfNeitherIsActive() {
        StreamLink link = withBothFailed();
        for (int primary = 1; primary >= 0; primary--) {
            link.primary(0, primary);
            CHECK.due("path to use", link.about(0, Links.TO_USE), primary);
            link.send(0, 0, false, 1, 1);
            CHECK.due("a word goes there", link.path(0, primary, Links.OUT_ON), 1);
            CHECK.due("in its row", link.waiting(0, primary), 1);
        }
    }

    private static void aMarkedWordGoesOnThePathToUseIfTheOtherIsNotActive() {
        for (int failed = 0; failed < 2; failed++) {
            StreamLink link = Links.withOneFailed(9, failed);
            link.primary(0, failed);
            link.send(0, 0, false, 1, 1);
            Links.ticks(link, 3);
            CHECK.due("marked and sent where it was", link.path(0, 1 - failed, Links.OUT_ON), 1);
            CHECK.due("not on the other", link.waiting(0, failed), 0);
            CHECK.due("twice", link.waiting(0, 1 - failed), 2);
        }
    }

    private static void aMarkedWordGoesOnThePrimaryPathIfNeitherIsActive() {
        for (int first = 0; first < 2; first++) {
            for (int then = 0; then < 2; then++) {
                StreamLink link = withBothFailed();
                link.primary(0, first);
                link.send(0, 0, false, 1, 1);
                link.primary(0, then);
                Links.ticks(link, 2);
                CHECK.due("out at 34", link.path(0, first, Links.OUT_ON), 1);
                link.tick();
                CHECK.due("marked at 35", link.path(0, first, Links.ERRORS), 4);
                CHECK.due("and out on the primary path", link.path(0, then, Links.OUT_ON), 1);
                CHECK.due("and nowhere else", link.path(0, 1 - then, Links.OUT_ON), 0);
            }
        }
    }

    private static void aMarkedWordGoesBackAndForth() {
        StreamLink link = Links.up(16, 9, 1, 12);
        link.primary(0, 1);
        link.send(0, 0, false, 1, 1);
        // Sent on 1 at 0, marked at 3; on 0, marked at 6; on 1 with wait 6, marked at 12.
        int[] ticks = {3, 3, 6};
        int[] paths = {0, 1, 0};
        for (int i = 0; i < ticks.length; i++) {
            CHECK.due("out on", link.path(0, 1 - paths[i], Links.OUT_ON), 1);
            Links.ticks(link, ticks[i]);
            CHECK.due("then on the other", link.path(0, paths[i], Links.OUT_ON), 1);
        }
    }

    private static void aFullPathIsNotEvaded() {
        StreamLink link = Links.up(16, 9, 1, 12);
        link.send(0, 0, false, 1, 4);
        CHECK.due("as many as the rate", link.path(0, 0, Links.OUT_ON), 2);
        CHECK.due("the rest is new", link.word(0, 3), 1);
        CHECK.due("though path 1 is free", link.path(0, 1, Links.OUT_ON), 0);
        // With primary 1 the next word goes there as soon as anything is sent.
        link.primary(0, 1);
        CHECK.due("a message that cannot go at once", link.send(0, 0, false, 5, 3), true);
        CHECK.due("out on path 1", link.path(0, 1, Links.OUT_ON), 2);
        CHECK.due("word 4", link.word(0, 4), 2);
        CHECK.due("word 5", link.word(0, 5), 1);
        CHECK.due("nothing goes, and it is true", link.send(0, 0, false, 8, 1), true);
    }

    private static void theWindowCountsWordsOnBothPaths() {
        StreamLink link = Links.up(2, 9, 1, 12);
        link.send(0, 0, false, 1, 1);
        link.primary(0, 1);
        link.send(0, 0, false, 2, 1);
        CHECK.due("one on path 0", link.path(0, 0, Links.OUT_ON), 1);
        CHECK.due("one on path 1", link.path(0, 1, Links.OUT_ON), 1);
        link.send(0, 0, false, 3, 1);
        CHECK.due("two fill the window", link.word(0, 3), 1);
        StreamLink wider = Links.up(3, 9, 1, 12);
        wider.send(0, 0, false, 1, 1);
        wider.primary(0, 1);
        wider.send(0, 0, false, 2, 3);
        CHECK.due("a window of 3 takes the third", wider.word(0, 3), 2);
        CHECK.due("but not the fourth", wider.word(0, 4), 1);
    }

    private static void theWindowIsMetExactly() {
        StreamLink link = Links.up(3, 9, 1, 12);
        link.send(0, 0, false, 1, 4);
        CHECK.due("rate 2", link.path(0, 0, Links.OUT_ON), 2);
        link.deliver(0, 0);
        link.deliver(1, 0);
        CHECK.due("rate 3", link.path(0, 0, Links.RATE), 3);
        CHECK.due("window 2", link.about(0, Links.WINDOW), 2);
        CHECK.due("one was out, so word 3 goes", link.word(0, 3), 2);
        CHECK.due("two are out, so word 4 does not", link.word(0, 4), 1);
    }

    private static void aWordGoesIntoAClosedWindowOnlyIfNoneIsOutAnywhere() {
        StreamLink link = Links.up(2, 9, 1, 12);
        link.send(0, 0, false, 1, 2);
        link.primary(0, 1);
        link.send(0, 0, false, 3, 1);
        CHECK.due("none is out on path 1", link.path(0, 1, Links.OUT_ON), 0);
        CHECK.due("but two on path 0", link.word(0, 3), 1);
        Links.settle(link, 0);
        CHECK.due("the window is closed", link.about(0, Links.WINDOW), 0);
        CHECK.due("and none is out, so word 3 goes", link.word(0, 3), 2);
        CHECK.due("on path 1", link.path(0, 1, Links.OUT_ON), 1);
        link.primary(0, 0);
        link.send(0, 0, false, 4, 1);
        CHECK.due("word 4 does not", link.word(0, 4), 1);
    }

    private static void heldWordsAreNotInTheWindow() {
        StreamLink link = Links.up(3, 9, 1, 12);
        link.send(0, 0, true, 1, 1);
        link.send(0, 0, true, 2, 1);
        link.alter(0, 0, false);
        link.deliver(0, 0);
        link.deliver(1, 0);
        CHECK.due("word 2 is held", link.word(0, 2), 4);
        CHECK.due("window", link.about(0, Links.WINDOW), 2);
        link.send(0, 0, true, 3, 1);
        CHECK.due("one is out, one held: word 3 goes", link.word(0, 3), 2);
    }

    /**
     * End 1 has its room full from before, so word 2 is dropped above the gap of word 1, and the
     * SACK says window 0 while both are out.
     */
    private static void markedWordsAreNotBoundByTheWindow() {
        StreamLink link = Links.up(2, 9, 1, 12);
        link.send(0, 0, false, 10, 2);
        Links.settle(link, 0);
        link.abort(0);
        link.abort(1);
        Links.loseAll(link);
        Links.connect(link, 13);
        link.send(0, 1, true, 20, 3);
        CHECK.due("two are out", link.path(0, 0, Links.OUT_ON), 2);
        link.alter(0, 0, false);
        link.deliver(0, 0);
        link.deliver(1, 0);
        CHECK.due("window", link.about(0, Links.WINDOW), 0);
        CHECK.due("two are out still", link.path(0, 0, Links.OUT_ON), 2);
        Links.ticks(link, 3);
        CHECK.due("both go again on path 1", link.path(0, 1, Links.OUT_ON), 2);
        CHECK.due("word 1", link.word(0, 1), 2);
        CHECK.due("word 2", link.word(0, 2), 2);
        CHECK.due("the new one does not", link.word(0, 3), 1);
    }

    private static void aRefusedMessageTakesNoOrderAndNoNumber() {
        StreamLink link = Links.up(16, 9, 1, 12);
        link.send(0, 0, false, 1, 3);
        for (int i = 0; i < 5; i++) {
            link.send(0, 1, true, 1, 4);
        }
        CHECK.due("23 to send", link.about(0, Links.TO_SEND), 23);
        CHECK.due("two more are refused", link.send(0, 0, false, 50, 2), false);
        CHECK.due("no part of it is there", link.word(0, 24), 0);
        CHECK.due("one more is not", link.send(0, 0, false, 60, 1), true);
        CHECK.due("its number is the next one", link.word(0, 24), 1);
        for (int i = 0; i < 12 && link.about(1, Links.LATEST) < 24; i++) {
            Links.deliver(link, 0, 0, 4);
            Links.deliver(link, 1, 0, 4);
            link.read(1, 1);
        }
        CHECK.due("all came", link.about(1, Links.LATEST), 24);
        CHECK.due("its order was the next one", link.ready(1, 0), 2);
        CHECK.due("read", link.read(1, 0), 1);
        CHECK.due("read", link.read(1, 0), 60);
    }

    private static void theTimerIsDueAfterThePathsOwnWait() {
        StreamLink link = Links.withOneFailed(9, 1);
        link.send(0, 0, false, 1, 1);
        Links.ticks(link, 3);
        CHECK.due("wait", link.path(0, 0, Links.WAIT), 6);
        Links.ticks(link, 5);
        CHECK.due("not at 40", link.path(0, 0, Links.ERRORS), 1);
        link.tick();
        CHECK.due("but at 41", link.path(0, 0, Links.ERRORS), 2);
    }
}
