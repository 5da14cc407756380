/** Terms, BEAT and BEATACK: what they leave alone, and answers to beats that are not open. */
public final class TermsBeatTest {
    private static final Check CHECK = new Check("terms, beat");

    public static void main(String[] args) {
        aBeatAckWhenNoneIsOpenDoesNothing();
        aBeatAckOfAnotherTickDoesNothing();
        aBeatAckOpensNothingOnTheOtherPath();
        aBeatAckLeavesRateAndWait();
        aBeatAckSendsNothing();
        aGoodPathLeavesItsBeatOpen();
        aBeatAnswersWithItsOwnTick();
        CHECK.finish();
    }

    private static void aBeatAckWhenNoneIsOpenDoesNothing() {
        StreamLink link = Links.up(16, 9, 1, 12);
        Links.ticks(link, 8);
        Links.loseAllFrom(link, 1);
        link.deliver(0, 0);
        link.alter(1, 0, true);
        CHECK.due("BEATACK of 8", link.deliver(1, 0), 7);
        CHECK.due("none is open", link.path(0, 0, Links.BEAT_OPEN), 0);
        link.send(0, 0, false, 1, 1);
        Links.ticks(link, 3);
        CHECK.due("an error by the timer at 11", link.path(0, 0, Links.ERRORS), 1);
        CHECK.due("BEATACK of 8 again", link.deliver(1, 0), 7);
        CHECK.due("the error stays", link.path(0, 0, Links.ERRORS), 1);
        CHECK.due("all errors stay", link.about(0, Links.ALL_ERRORS), 1);
    }

    private static void aBeatAckOfAnotherTickDoesNothing() {
        StreamLink link = Links.up(16, 9, 1, 12);
        Links.ticks(link, 32);
        Links.loseAllFrom(link, 1);
        CHECK.due("BEAT of 8", link.deliver(0, 1), 6);
        CHECK.due("BEATACK of 8", link.deliver(1, 1), 7);
        CHECK.due("that of 32 is open", link.path(0, 1, Links.BEAT_OPEN), 1);
        CHECK.due("errors stay", link.path(0, 1, Links.ERRORS), 3);
        CHECK.due("not active", link.path(0, 1, Links.ACTIVE), 0);
        CHECK.due("all errors stay", link.about(0, Links.ALL_ERRORS), 6);
    }

    private static void aBeatAckOpensNothingOnTheOtherPath() {
        for (int path = 0; path < 2; path++) {
            StreamLink link = Links.up(16, 9, 1, 12);
            Links.ticks(link, 16);
            Links.loseAllFrom(link, 1);
            link.alter(0, path, false);
            link.deliver(0, path);
            CHECK.due("BEATACK of 16", link.deliver(1, path), 7);
            CHECK.due("errors there", link.path(0, path, Links.ERRORS), 0);
            CHECK.due("all errors", link.about(0, Links.ALL_ERRORS), 0);
            CHECK.due("none open there", link.path(0, path, Links.BEAT_OPEN), 0);
            CHECK.due("the other's errors", link.path(0, 1 - path, Links.ERRORS), 1);
            CHECK.due("the other's beat", link.path(0, 1 - path, Links.BEAT_OPEN), 1);
        }
    }

    private static void aBeatAckLeavesRateAndWait() {
        StreamLink link = Links.up(16, 9, 1, 12);
        link.send(0, 0, false, 1, 1);
        Links.ticks(link, 3);
        Links.settle(link, 1);
        CHECK.due("rate of path 0", link.path(0, 0, Links.RATE), 1);
        CHECK.due("wait of path 0", link.path(0, 0, Links.WAIT), 6);
        Links.ticks(link, 5);
        Links.settle(link, 0);
        CHECK.due("the beat is answered", link.path(0, 0, Links.BEAT_OPEN), 0);
        CHECK.due("errors", link.path(0, 0, Links.ERRORS), 0);
        CHECK.due("rate stays", link.path(0, 0, Links.RATE), 1);
        CHECK.due("wait stays", link.path(0, 0, Links.WAIT), 6);
    }

    private static void aBeatAckSendsNothing() {
        StreamLink link = Links.up(16, 9, 1, 12);
        Links.ticks(link, 8);
        link.send(0, 0, false, 1, 3);
        CHECK.due("word 3 waits for path 0", link.word(0, 3), 1);
        link.primary(0, 1);
        Links.loseAllFrom(link, 1);
        CHECK.due("BEAT", link.deliver(0, 1), 6);
        CHECK.due("BEATACK", link.deliver(1, 1), 7);
        CHECK.due("word 3 is new still", link.word(0, 3), 1);
        CHECK.due("nothing on path 1", link.waiting(0, 1), 0);
    }

    private static void aGoodPathLeavesItsBeatOpen() {
        StreamLink link = Links.up(16, 9, 1, 12);
        Links.ticks(link, 8);
        Links.loseAll(link);
        link.send(0, 0, false, 1, 1);
        Links.settle(link, 0);
        CHECK.due("path 0 was good", link.path(0, 0, Links.RATE), 3);
        CHECK.due("its beat is open still", link.path(0, 0, Links.BEAT_OPEN), 1);
        Links.ticks(link, 8);
        CHECK.due("and an error at 16", link.path(0, 0, Links.ERRORS), 1);
    }

    /** BEATs of 8 and 16 arrive at 16 in turn, and only the answer to the second is awaited. */
    private static void aBeatAnswersWithItsOwnTick() {
        StreamLink link = Links.up(16, 9, 1, 12);
        Links.ticks(link, 16);
        Links.loseAllFrom(link, 1);
        Links.deliver(link, 0, 0, 2);
        CHECK.due("two answers", link.waiting(1, 0), 2);
        link.deliver(1, 0);
        CHECK.due("open after the first", link.path(0, 0, Links.BEAT_OPEN), 1);
        link.deliver(1, 0);
        CHECK.due("not after the second", link.path(0, 0, Links.BEAT_OPEN), 0);
        // Between its sending and its arrival time goes on; the tick in it does not.
        Links.ticks(link, 8);
        Links.loseAllFrom(link, 1);
        Links.ticks(link, 7);
        CHECK.due("BEAT of 24 at 31", link.deliver(0, 0), 6);
        link.deliver(1, 0);
        CHECK.due("is answered in time", link.path(0, 0, Links.BEAT_OPEN), 0);
    }
}
