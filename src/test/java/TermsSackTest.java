/** Terms, SACK: words that are marked or held already, strikes among gaps, and timers. */
public final class TermsSackTest {
    private static final Check CHECK = new Check("terms, sack");

    public static void main(String[] args) {
        anOldSackGivesNoStrikes();
        anOldSackSendsNothing();
        aSackWithTheSameNumberSends();
        aMarkedWordIsHeldAndItsPathGood();
        aMarkedWordIsGoneAndItsPathGood();
        aHeldWordStaysHeldWithoutItsBit();
        aWordAmongGapsIsStruck();
        aWordAboveTheGreatestBitIsNotStruck();
        strikesWithoutNewsMarkAWordToo();
        aStruckWordLeavesTheTimerToTheOthers();
        theTimerStopsBeforeNewWordsGo();
        theTimerOfAGoodPathHasTheWaitOfThree();
        aGoodPathIsThatOfTheWordNotOfTheSack();
        theRateIsHalvedDownwards();
        CHECK.finish();
    }

    /** A link with rate 4 on path 0 and window 16; words 1 and 2 are gone, and read. */
    private static StreamLink withRateFour() {
        StreamLink link = Links.up(16, 9, 1, 12);
        for (int i = 0; i < 2; i++) {
            link.send(0, 0, true, 1, 1);
            link.deliver(0, 0);
            link.read(1, 0);
            link.deliver(1, 0);
        }
        CHECK.due("rate", link.path(0, 0, Links.RATE), 4);
        CHECK.due("window", link.about(0, Links.WINDOW), 15);
        return link;
    }

    private static void sendOneByOne(StreamLink link, int count) {
        for (int i = 0; i < count; i++) {
            link.send(0, 0, true, 1, 1);
        }
    }

    private static void anOldSackGivesNoStrikes() {
        StreamLink link = withRateFour();
        sendOneByOne(link, 3);
        // Word 5 comes first: three copies of a SACK of number 2 with the bit of 5.
        Links.toTheEnd(link, 0, 0);
        Links.toTheEnd(link, 0, 0);
        link.deliver(0, 0);
        link.alter(1, 0, true);
        link.alter(1, 0, true);
        // Word 3 follows: its SACK of number 3, with the bit of 5 too, comes before those.
        link.deliver(0, 0);
        Links.toTheEnd(link, 1, 0);
        Links.toTheEnd(link, 1, 0);
        Links.toTheEnd(link, 1, 0);
        link.deliver(1, 0);
        CHECK.due("word 3 is gone", link.word(0, 3), 0);
        CHECK.due("word 5 is held", link.word(0, 5), 4);
        for (int i = 0; i < 3; i++) {
            CHECK.due("an old SACK", link.deliver(1, 0), 5);
            CHECK.due("word 4 is out where it was", link.path(0, 0, Links.OUT_ON), 1);
        }
        CHECK.due("the rate is not halved", link.path(0, 0, Links.RATE), 5);
        CHECK.due("nothing on path 1", link.waiting(0, 1), 0);
    }

    private static void anOldSackSendsNothing() {
        StreamLink link = Links.up(16, 9, 1, 12);
        sendOneByOne(link, 2);
        Links.deliver(link, 0, 0, 2);
        Links.toTheEnd(link, 1, 0);
        link.deliver(1, 0);
        CHECK.due("all gone", link.about(0, Links.TO_SEND), 0);
        link.send(0, 0, true, 1, 4);
        link.send(0, 0, true, 1, 1);
        CHECK.due("word 7 waits for path 0", link.word(0, 7), 1);
        link.primary(0, 1);
        CHECK.due("the old SACK of number 1", link.deliver(1, 0), 5);
        CHECK.due("word 7 is new still", link.word(0, 7), 1);
        CHECK.due("nothing on path 1", link.waiting(0, 1), 0);
    }

    private static void aSackWithTheSameNumberSends() {
        StreamLink link = Links.up(16, 9, 1, 12);
        sendOneByOne(link, 1);
        link.alter(0, 0, true);
        Links.deliver(link, 0, 0, 2);
        link.deliver(1, 0);
        link.send(0, 0, true, 1, 4);
        CHECK.due("word 5 waits for path 0", link.word(0, 5), 1);
        link.primary(0, 1);
        CHECK.due("the SACK of number 1 again", link.deliver(1, 0), 5);
        CHECK.due("word 5 goes", link.word(0, 5), 2);
        CHECK.due("on path 1", link.path(0, 1, Links.OUT_ON), 1);
    }

    /** At 3 words 3 to 6, out on path 0, are marked; 3 and 4 go on path 1, 5 and 6 find no place. */
    private static StreamLink withMarkedWords() {
        StreamLink link = withRateFour();
        sendOneByOne(link, 4);
        CHECK.due("four are out", link.path(0, 0, Links.OUT_ON), 4);
        Links.ticks(link, 3);
        CHECK.due("two are out on path 1", link.path(0, 1, Links.OUT_ON), 2);
        CHECK.due("word 5 is marked", link.word(0, 5), 3);
        CHECK.due("word 6 is marked", link.word(0, 6), 3);
        CHECK.due("rate of path 0", link.path(0, 0, Links.RATE), 1);
        CHECK.due("errors of path 0", link.path(0, 0, Links.ERRORS), 1);
        return link;
    }

    private static void aMarkedWordIsHeldAndItsPathGood() {
        StreamLink link = withMarkedWords();
        Links.lose(link, 0, 0, 3);
        CHECK.due("the old DATA of word 6", link.deliver(0, 0), 4);
        CHECK.due("SACK", link.deliver(1, 0), 5);
        CHECK.due("word 6 is held", link.word(0, 6), 4);
        CHECK.due("path 0, on which it was sent last, is good", link.path(0, 0, Links.RATE), 2);
        CHECK.due("its errors", link.path(0, 0, Links.ERRORS), 0);
        CHECK.due("its wait", link.path(0, 0, Links.WAIT), 3);
        CHECK.due("all errors", link.about(0, Links.ALL_ERRORS), 0);
        CHECK.due("path 1 is not", link.path(0, 1, Links.RATE), 2);
        CHECK.due("word 5 is marked still", link.word(0, 5), 3);
    }

    private static void aMarkedWordIsGoneAndItsPathGood() {
        StreamLink link = withMarkedWords();
        Links.deliver(link, 0, 0, 3);
        Links.lose(link, 1, 0, 2);
        CHECK.due("the SACK of number 5", link.deliver(1, 0), 5);
        CHECK.due("word 5 is gone", link.word(0, 5), 0);
        CHECK.due("path 0, on which it was sent last, is good", link.path(0, 0, Links.RATE), 2);
        CHECK.due("its errors", link.path(0, 0, Links.ERRORS), 0);
        CHECK.due("path 1, of words 3 and 4, is good, too", link.path(0, 1, Links.RATE), 3);
        CHECK.due("word 6 goes on path 1", link.path(0, 1, Links.OUT_ON), 1);
    }

    private static void aHeldWordStaysHeldWithoutItsBit() {
        StreamLink link = withRateFour();
        sendOneByOne(link, 3);
        link.alter(0, 0, false);
        // The SACK that tells of word 4 alone comes after that which tells of 4 and 5.
        Links.deliver(link, 0, 0, 2);
        Links.toTheEnd(link, 1, 0);
        link.deliver(1, 0);
        CHECK.due("word 4 is held", link.word(0, 4), 4);
        CHECK.due("word 5 is held", link.word(0, 5), 4);
        CHECK.due("an older SACK of the same number", link.deliver(1, 0), 5);
        CHECK.due("word 5 is held still", link.word(0, 5), 4);
        CHECK.due("word 3 is out still", link.word(0, 3), 2);
    }

    private static void aWordAmongGapsIsStruck() {
        StreamLink link = withRateFour();
        sendOneByOne(link, 9);
        // Words 3 and 5 are lost; 4, 6, 7 and 8 come, and strike them 4 and 3 times.
        link.alter(0, 0, false);
        deliverAndSack(link);
        link.alter(0, 0, false);
        deliverAndSack(link);
        CHECK.due("word 3 has two strikes", link.word(0, 3), 2);
        CHECK.due("on path 0", link.path(0, 1, Links.OUT_ON), 0);
        deliverAndSack(link);
        CHECK.due("word 3 has three", link.path(0, 1, Links.OUT_ON), 1);
        CHECK.due("rate is half of 7", link.path(0, 0, Links.RATE), 3);
        deliverAndSack(link);
        CHECK.due("word 5 has three, too", link.path(0, 1, Links.OUT_ON), 2);
        CHECK.due("rate is half of 4", link.path(0, 0, Links.RATE), 2);
        CHECK.due("word 4 is held", link.word(0, 4), 4);
    }

    private static void deliverAndSack(StreamLink link) {
        CHECK.due("DATA", link.deliver(0, 0), 4);
        CHECK.due("SACK", link.deliver(1, 0), 5);
    }

    private static void aWordAboveTheGreatestBitIsNotStruck() {
        StreamLink link = withRateFour();
        sendOneByOne(link, 3);
        // Word 3 is lost, 4 comes four times, and word 5 stays under way behind that.
        link.alter(0, 0, false);
        Links.toTheEnd(link, 0, 0);
        for (int i = 0; i < 4; i++) {
            Links.toTheEnd(link, 0, 0);
            link.alter(0, 0, true);
            link.deliver(0, 0);
            link.deliver(1, 0);
        }
        CHECK.due("word 3 was struck and goes on path 1", link.path(0, 1, Links.OUT_ON), 1);
        CHECK.due("word 5 is out where it was", link.path(0, 0, Links.OUT_ON), 1);
        CHECK.due("rate is halved once", link.path(0, 0, Links.RATE), 2);
    }

    private static void strikesWithoutNewsMarkAWordToo() {
        StreamLink link = Links.up(16, 9, 1, 12);
        sendOneByOne(link, 2);
        link.alter(0, 0, false);
        link.deliver(0, 0);
        link.alter(1, 0, true);
        link.alter(1, 0, true);
        link.deliver(1, 0);
        CHECK.due("rate", link.path(0, 0, Links.RATE), 3);
        link.deliver(1, 0);
        CHECK.due("two strikes", link.path(0, 0, Links.OUT_ON), 1);
        link.deliver(1, 0);
        CHECK.due("three strikes by one SACK come thrice", link.path(0, 1, Links.OUT_ON), 1);
        CHECK.due("rate is half of 3", link.path(0, 0, Links.RATE), 1);
        CHECK.due("its timer stops", link.path(0, 0, Links.TIMER), 0);
    }

    private static void aStruckWordLeavesTheTimerToTheOthers() {
        StreamLink link = withRateFour();
        sendOneByOne(link, 3);
        // Word 3 is lost and struck thrice by copies of one SACK; word 5 stays out on path 0.
        link.alter(0, 0, false);
        link.deliver(0, 0);
        link.alter(1, 0, true);
        link.alter(1, 0, true);
        link.deliver(1, 0);
        Links.ticks(link, 2);
        Links.deliver(link, 1, 0, 2);
        CHECK.due("word 3 is on path 1", link.path(0, 1, Links.OUT_ON), 1);
        CHECK.due("word 5 on path 0", link.path(0, 0, Links.OUT_ON), 1);
        CHECK.due("its timer runs", link.path(0, 0, Links.TIMER), 1);
        link.tick();
        CHECK.due("and is due at 3 as before", link.path(0, 0, Links.ERRORS), 1);
    }

    /**
     * The window holds word 3 back until word 2 is read; the SACK that tells so is the third
     * strike of word 1, with which nothing is out on path 0 any more.
     */
    private static void theTimerStopsBeforeNewWordsGo() {
        StreamLink link = Links.up(2, 9, 1, 12);
        sendOneByOne(link, 3);
        link.alter(0, 0, false);
        link.alter(0, 0, true);
        link.alter(0, 0, true);
        deliverAndSack(link);
        deliverAndSack(link);
        CHECK.due("word 3 is new", link.word(0, 3), 1);
        Links.ticks(link, 2);
        link.read(1, 0);
        deliverAndSack(link);
        CHECK.due("word 1 is on path 1", link.path(0, 1, Links.OUT_ON), 1);
        CHECK.due("word 3 on path 0", link.path(0, 0, Links.OUT_ON), 1);
        link.tick();
        CHECK.due("not due at 3 as before", link.path(0, 0, Links.ERRORS), 0);
        Links.ticks(link, 2);
        CHECK.due("but at 5", link.path(0, 0, Links.ERRORS), 1);
    }

    private static void theTimerOfAGoodPathHasTheWaitOfThree() {
        StreamLink link = Links.withOneFailed(9, 1);
        sendOneByOne(link, 1);
        Links.settle(link, 0);
        sendOneByOne(link, 2);
        // At 35 both are marked; word 2 goes again on path 0, with wait 6, and word 3 waits.
        Links.ticks(link, 3);
        CHECK.due("wait", link.path(0, 0, Links.WAIT), 6);
        Links.lose(link, 0, 0, 2);
        deliverAndSack(link);
        CHECK.due("wait of the good path", link.path(0, 0, Links.WAIT), 3);
        CHECK.due("word 3 goes", link.path(0, 0, Links.OUT_ON), 1);
        Links.ticks(link, 2);
        CHECK.due("not due at 37", link.path(0, 0, Links.ERRORS), 0);
        link.tick();
        CHECK.due("but at 38", link.path(0, 0, Links.ERRORS), 1);
        aTimerThatRunsIsDueByTheNewWait();
    }

    /** Word 3 is out on path 0 with wait 6, when word 6, marked and of that path too, is held. */
    private static void aTimerThatRunsIsDueByTheNewWait() {
        StreamLink link = withMarkedWords();
        Links.ticks(link, 3);
        CHECK.due("word 3 is out on path 0 at 6", link.path(0, 0, Links.OUT_ON), 1);
        CHECK.due("with wait 6", link.path(0, 0, Links.WAIT), 6);
        CHECK.due("word 6 is marked", link.word(0, 6), 3);
        Links.lose(link, 0, 0, 3);
        deliverAndSack(link);
        CHECK.due("word 6 is held", link.word(0, 6), 4);
        CHECK.due("errors of path 0", link.path(0, 0, Links.ERRORS), 0);
        Links.ticks(link, 2);
        CHECK.due("not due at 8", link.path(0, 0, Links.ERRORS), 0);
        link.tick();
        CHECK.due("but at 9", link.path(0, 0, Links.ERRORS), 1);
    }

    /** Word 1 was sent on path 0 and marked; its first copy's SACK comes back on path 0. */
    private static void aGoodPathIsThatOfTheWordNotOfTheSack() {
        StreamLink link = Links.up(16, 9, 1, 12);
        sendOneByOne(link, 1);
        Links.ticks(link, 3);
        CHECK.due("sent last on path 1", link.path(0, 1, Links.OUT_ON), 1);
        deliverAndSack(link);
        CHECK.due("word 1 is gone", link.word(0, 1), 0);
        CHECK.due("path 1 is good", link.path(0, 1, Links.RATE), 3);
        CHECK.due("path 0 is not", link.path(0, 0, Links.RATE), 1);
        CHECK.due("its error stays", link.path(0, 0, Links.ERRORS), 1);
        CHECK.due("its wait stays", link.path(0, 0, Links.WAIT), 6);
        CHECK.due("but all errors are 0", link.about(0, Links.ALL_ERRORS), 0);
    }

    private static void theRateIsHalvedDownwards() {
        int[] rates = {3, 4, 5, 6, 7, 8, 8};
        int[] halves = {1, 2, 2, 3, 3, 4, 4};
        for (int i = 0; i < rates.length; i++) {
            StreamLink link = Links.up(16, 9, 1, 12);
            for (int k = 0; k < i; k++) {
                sendOneByOne(link, 1);
                link.deliver(0, 0);
                link.read(1, 0);
                link.deliver(1, 0);
            }
            sendOneByOne(link, 2);
            link.alter(0, 0, false);
            link.deliver(0, 0);
            link.alter(1, 0, true);
            link.alter(1, 0, true);
            Links.deliver(link, 1, 0, 2);
            CHECK.due("rate", link.path(0, 0, Links.RATE), rates[i]);
            link.deliver(1, 0);
            CHECK.due("half of it", link.path(0, 0, Links.RATE), halves[i]);
        }
    }
}
