/** Promise 4, deliver: what a SACK does at the end that sent the words. */
public final class Promise04SackTest {
    private static final Check CHECK = new Check("promise 4, sack");

    public static void main(String[] args) {
        wordsUpToItsNumberAreGone();
        wordsInItsGapBitsAreHeld();
        anOldSackIsNotLookedAt();
        aSackWithTheSameNumberIs();
        aGoodPathGrowsToEight();
        aGoodPathGrowsOncePerSack();
        aGoodPathIsWellAgain();
        aGoodPathIsActiveAgain();
        aPathThatIsNotActiveIsAvoided();
        bothPathsMayBeGood();
        heldWordsAreNoNewsWhenGone();
        heldWordsAreNoNewsWhenToldAgain();
        threeStrikesMarkAWord();
        strikesAreForgottenWhenSentAgain();
        aTimerForgetsStrikesToo();
        withoutGapsThereAreNoStrikes();
        everyStruckWordHalvesTheRate();
        theTimerOfAGoodPathStartsAnew();
        theTimerOfAnotherPathGoesOn();
        theTimerStopsWithNothingOut();
        CHECK.finish();
    }

    private static StreamLink with(int words) {
        StreamLink link = Links.up(16, 9, 1, 12);
        for (int i = 1; i <= words; i++) {
            link.send(0, 0, false, i, 1);
        }
        return link;
    }

    private static void states(StreamLink link, String when, int... due) {
        for (int i = 0; i < due.length; i++) {
            CHECK.due(when + ": word " + (i + 1), link.word(0, i + 1), due[i]);
        }
    }

    private static void wordsUpToItsNumberAreGone() {
        StreamLink link = with(5);
        Links.deliver(link, 0, 0, 2);
        link.alter(1, 0, false);
        states(link, "before", 2, 2, 1, 1, 1);
        CHECK.due("SACK", link.deliver(1, 0), 5);
        states(link, "after", 0, 0, 2, 2, 2);
        CHECK.due("to send", link.about(0, Links.TO_SEND), 3);
    }

    private static void wordsInItsGapBitsAreHeld() {
        StreamLink link = with(5);
        link.alter(0, 0, false);
        link.deliver(0, 0);
        link.deliver(1, 0);
        states(link, "word 1 lost", 2, 4, 2, 2, 1);
        link.alter(0, 0, false);
        link.deliver(0, 0);
        link.deliver(1, 0);
        states(link, "word 3 lost", 2, 4, 2, 4, 2);
        CHECK.due("out", link.path(0, 0, Links.OUT_ON), 3);
        CHECK.due("to send", link.about(0, Links.TO_SEND), 5);
    }

    private static void anOldSackIsNotLookedAt() {
        StreamLink link = with(2);
        link.deliver(0, 0);
        link.alter(1, 0, true);
        link.deliver(1, 0);
        link.deliver(0, 0);
        // The row to end 0 holds SACK 1 again and then SACK 2: the newer one comes first.
        link.alter(1, 0, true);
        link.alter(1, 0, false);
        link.deliver(1, 0);
        CHECK.due("window after SACK 2", link.about(0, Links.WINDOW), 14);
        CHECK.due("rate", link.path(0, 0, Links.RATE), 4);
        link.send(0, 0, false, 3, 1);
        CHECK.due("SACK 1", link.deliver(1, 0), 5);
        CHECK.due("window stays", link.about(0, Links.WINDOW), 14);
        states(link, "after the old SACK", 0, 0, 2);
    }

    private static void aSackWithTheSameNumberIs() {
        StreamLink link = with(1);
        link.alter(0, 0, true);
        link.deliver(0, 0);
        link.deliver(1, 0);
        CHECK.due("window", link.about(0, Links.WINDOW), 15);
        link.read(1, 0);
        link.deliver(0, 0);
        link.deliver(1, 0);
        CHECK.due("window of the second", link.about(0, Links.WINDOW), 16);
        CHECK.due("nothing was gone by it", link.path(0, 0, Links.RATE), 3);
    }

    private static void aGoodPathGrowsToEight() {
        StreamLink link = Links.up(16, 9, 1, 12);
        int[] rates = {3, 4, 5, 6, 7, 8, 8, 8};
        for (int rate : rates) {
            link.send(0, 0, false, 1, 1);
            Links.settle(link, 0);
            CHECK.due("rate", link.path(0, 0, Links.RATE), rate);
        }
        CHECK.due("the other path's rate", link.path(0, 1, Links.RATE), 2);
        CHECK.due("the other end's rate", link.path(1, 0, Links.RATE), 2);
    }

    private static void aGoodPathGrowsOncePerSack() {
        StreamLink link = with(2);
        Links.deliver(link, 0, 0, 2);
        link.alter(1, 0, false);
        link.deliver(1, 0);
        CHECK.due("rate", link.path(0, 0, Links.RATE), 3);
    }

    private static void aGoodPathIsWellAgain() {
        StreamLink link = with(1);
        // Word 1 goes on path 0, at 3 on path 1, at 6 on path 0 again.
        Links.ticks(link, 7);
        CHECK.due("sent last on path 0", link.path(0, 0, Links.OUT_ON), 1);
        for (int path = 0; path < 2; path++) {
            CHECK.due("errors of path " + path, link.path(0, path, Links.ERRORS), 1);
            CHECK.due("wait of path " + path, link.path(0, path, Links.WAIT), 6);
            CHECK.due("rate of path " + path, link.path(0, path, Links.RATE), 1);
        }
        CHECK.due("all errors", link.about(0, Links.ALL_ERRORS), 2);
        link.deliver(0, 0);
        link.deliver(1, 0);
        CHECK.due("word 1 is gone", link.word(0, 1), 0);
        CHECK.due("errors of path 0", link.path(0, 0, Links.ERRORS), 0);
        CHECK.due("wait of path 0", link.path(0, 0, Links.WAIT), 3);
        CHECK.due("rate of path 0", link.path(0, 0, Links.RATE), 2);
        CHECK.due("errors of path 1 stay", link.path(0, 1, Links.ERRORS), 1);
        CHECK.due("wait of path 1 stays", link.path(0, 1, Links.WAIT), 6);
        CHECK.due("rate of path 1 stays", link.path(0, 1, Links.RATE), 1);
        CHECK.due("all errors", link.about(0, Links.ALL_ERRORS), 0);
    }

    private static void aGoodPathIsActiveAgain() {
        StreamLink link = with(1);
        // Both paths fail in turn; at 30 neither is active, and the primary one is used.
        Links.ticks(link, 30);
        CHECK.due("path 0 is not active", link.path(0, 0, Links.ACTIVE), 0);
        CHECK.due("path 1 is not active", link.path(0, 1, Links.ACTIVE), 0);
        CHECK.due("path to use", link.about(0, Links.TO_USE), 0);
        CHECK.due("out on path 0", link.path(0, 0, Links.OUT_ON), 1);
        CHECK.due("wait of path 0", link.path(0, 0, Links.WAIT), 24);
        Links.lose(link, 1, 0, 8);
        link.deliver(0, 0);
        link.deliver(1, 0);
        CHECK.due("path 0 is active", link.path(0, 0, Links.ACTIVE), 1);
        CHECK.due("path 1 is not", link.path(0, 1, Links.ACTIVE), 0);
        CHECK.due("errors of path 0", link.path(0, 0, Links.ERRORS), 0);
        CHECK.due("errors of path 1", link.path(0, 1, Links.ERRORS), 3);
    }

    private static void aPathThatIsNotActiveIsAvoided() {
        StreamLink link = Links.up(16, 9, 1, 12);
        // BEATs on path 1 get no answer: errors at 16, 24 and 32.
        for (int i = 0; i < 4; i++) {
            Links.ticks(link, 8);
            Links.settle(link, 0);
            Links.lose(link, 0, 1, 8);
            Links.lose(link, 1, 1, 8);
        }
        CHECK.due("path 1 is not active", link.path(0, 1, Links.ACTIVE), 0);
        link.primary(0, 1);
        CHECK.due("so path 0 is to use", link.about(0, Links.TO_USE), 0);
        link.send(0, 0, false, 1, 1);
        CHECK.due("out on path 0", link.path(0, 0, Links.OUT_ON), 1);
        link.alter(0, 0, false);
        Links.ticks(link, 3);
        CHECK.due("marked words do not go to it", link.path(0, 1, Links.OUT_ON), 0);
        CHECK.due("but on the path to use", link.path(0, 0, Links.OUT_ON), 1);
    }

    private static void bothPathsMayBeGood() {
        StreamLink link = with(1);
        link.primary(0, 1);
        link.send(0, 0, false, 2, 1);
        link.deliver(0, 0);
        link.deliver(0, 1);
        link.alter(1, 0, false);
        CHECK.due("one SACK for both", link.deliver(1, 1), 5);
        CHECK.due("rate of path 0", link.path(0, 0, Links.RATE), 3);
        CHECK.due("rate of path 1", link.path(0, 1, Links.RATE), 3);
        CHECK.due("timer of path 0", link.path(0, 0, Links.TIMER), 0);
        CHECK.due("timer of path 1", link.path(0, 1, Links.TIMER), 0);
    }

    private static void heldWordsAreNoNewsWhenGone() {
        StreamLink link = with(1);
        link.primary(0, 1);
        link.send(0, 0, false, 2, 1);
        link.deliver(0, 1);
        link.deliver(1, 1);
        CHECK.due("word 2 is held", link.word(0, 2), 4);
        CHECK.due("path 1 is good", link.path(0, 1, Links.RATE), 3);
        CHECK.due("path 0 is not", link.path(0, 0, Links.RATE), 2);
        link.deliver(0, 0);
        link.deliver(1, 0);
        CHECK.due("all gone", link.about(0, Links.TO_SEND), 0);
        CHECK.due("path 1 as before", link.path(0, 1, Links.RATE), 3);
        CHECK.due("path 0 is good now", link.path(0, 0, Links.RATE), 3);
    }

    private static void heldWordsAreNoNewsWhenToldAgain() {
        StreamLink link = with(2);
        link.alter(0, 0, false);
        link.alter(0, 0, true);
        Links.deliver(link, 0, 0, 2);
        link.deliver(1, 0);
        CHECK.due("rate", link.path(0, 0, Links.RATE), 3);
        Links.ticks(link, 2);
        CHECK.due("the same SACK again", link.deliver(1, 0), 5);
        CHECK.due("rate stays", link.path(0, 0, Links.RATE), 3);
        CHECK.due("word 2 is held", link.word(0, 2), 4);
        link.tick();
        CHECK.due("the timer was not started anew", link.path(0, 0, Links.ERRORS), 1);
    }

    private static void threeStrikesMarkAWord() {
        StreamLink link = with(8);
        link.alter(0, 0, false);
        int[] rates = {3, 4};
        for (int i = 0; i < 2; i++) {
            link.deliver(0, 0);
            link.deliver(1, 0);
            CHECK.due("rate", link.path(0, 0, Links.RATE), rates[i]);
            CHECK.due("not marked yet", link.path(0, 1, Links.OUT_ON), 0);
        }
        link.deliver(0, 0);
        link.deliver(1, 0);
        CHECK.due("rate is half of 5", link.path(0, 0, Links.RATE), 2);
        CHECK.due("word 1 goes on the other path", link.path(0, 1, Links.OUT_ON), 1);
        CHECK.due("and is out there", link.word(0, 1), 2);
        CHECK.due("no error by that", link.path(0, 0, Links.ERRORS), 0);
        link.deliver(0, 1);
        CHECK.due("it arrives", link.about(1, Links.LATEST), 4);
    }

    private static void strikesAreForgottenWhenSentAgain() {
        StreamLink link = with(12);
        link.alter(0, 0, false);
        for (int i = 0; i < 3; i++) {
            link.deliver(0, 0);
            link.deliver(1, 0);
        }
        CHECK.due("out on path 1", link.path(0, 1, Links.OUT_ON), 1);
        link.alter(0, 1, false);
        for (int i = 0; i < 2; i++) {
            link.deliver(0, 0);
            link.deliver(1, 0);
            CHECK.due("two strikes more do nothing", link.path(0, 1, Links.OUT_ON), 1);
        }
        link.deliver(0, 0);
        link.deliver(1, 0);
        CHECK.due("the third sends it again", link.path(0, 1, Links.OUT_ON), 0);
        CHECK.due("path 1's rate is half", link.path(0, 1, Links.RATE), 1);
        CHECK.due("path 1's timer stops", link.path(0, 1, Links.TIMER), 0);
    }

    private static void aTimerForgetsStrikesToo() {
        StreamLink link = with(8);
        link.alter(0, 0, false);
        for (int i = 0; i < 2; i++) {
            link.deliver(0, 0);
            link.deliver(1, 0);
        }
        // Word 1 has two strikes; at 3 it is marked by the timer and goes on path 1.
        Links.ticks(link, 3);
        CHECK.due("out on path 1", link.path(0, 1, Links.OUT_ON), 2);
        CHECK.due("word 1", link.word(0, 1), 2);
        link.deliver(0, 0);
        link.deliver(1, 0);
        CHECK.due("its first strike there does nothing", link.word(0, 1), 2);
        CHECK.due("path 1 is good and not halved", link.path(0, 1, Links.RATE), 3);
        CHECK.due("word 1 stays there, 5 and 6 follow", link.path(0, 1, Links.OUT_ON), 3);
    }

    private static void withoutGapsThereAreNoStrikes() {
        StreamLink link = with(2);
        for (int i = 0; i < 4; i++) {
            link.alter(0, 0, true);
        }
        // Word 1 comes five times, and word 2 goes behind all of them.
        link.deliver(0, 0);
        link.alter(0, 0, true);
        link.alter(0, 0, false);
        Links.deliver(link, 0, 0, 4);
        CHECK.due("latest", link.about(1, Links.LATEST), 1);
        Links.deliver(link, 1, 0, 5);
        CHECK.due("word 2 is out where it was", link.path(0, 0, Links.OUT_ON), 1);
        CHECK.due("rate", link.path(0, 0, Links.RATE), 3);
    }

    private static void everyStruckWordHalvesTheRate() {
        StreamLink link = Links.up(16, 9, 1, 12);
        for (int i = 0; i < 6; i++) {
            link.send(0, 0, true, 1, 1);
            Links.settle(link, 0);
            link.read(1, 0);
        }
        for (int i = 0; i < 10; i++) {
            link.send(0, 0, true, 1, 1);
        }
        CHECK.due("rate", link.path(0, 0, Links.RATE), 8);
        CHECK.due("out", link.path(0, 0, Links.OUT_ON), 8);
        // Words 7 and 8 are lost; 9, 10 and 11 arrive.
        Links.lose(link, 0, 0, 2);
        Links.deliver(link, 0, 0, 3);
        Links.deliver(link, 1, 0, 2);
        CHECK.due("rate", link.path(0, 0, Links.RATE), 8);
        link.deliver(1, 0);
        CHECK.due("8 halved twice", link.path(0, 0, Links.RATE), 2);
        CHECK.due("both on path 1", link.path(0, 1, Links.OUT_ON), 2);
        theRateIsAtLeastOne();
    }

    private static void theRateIsAtLeastOne() {
        StreamLink link = Links.up(16, 9, 1, 12);
        for (int i = 0; i < 6; i++) {
            link.send(0, 0, true, 1, 1);
            Links.settle(link, 0);
        }
        for (int i = 0; i < 8; i++) {
            link.send(0, 0, true, 1, 1);
        }
        CHECK.due("out", link.path(0, 0, Links.OUT_ON), 8);
        Links.lose(link, 0, 0, 5);
        Links.deliver(link, 0, 0, 3);
        Links.deliver(link, 1, 0, 3);
        CHECK.due("8 halved five times", link.path(0, 0, Links.RATE), 1);
    }

    private static void theTimerOfAGoodPathStartsAnew() {
        StreamLink link = with(3);
        Links.ticks(link, 2);
        link.deliver(0, 0);
        link.deliver(1, 0);
        Links.ticks(link, 2);
        CHECK.due("not due at 3 or 4", link.path(0, 0, Links.ERRORS), 0);
        link.tick();
        CHECK.due("but at 5", link.path(0, 0, Links.ERRORS), 1);
    }

    private static void theTimerOfAnotherPathGoesOn() {
        StreamLink link = with(1);
        link.primary(0, 1);
        link.send(0, 0, false, 2, 1);
        Links.ticks(link, 2);
        link.deliver(0, 1);
        link.deliver(1, 1);
        CHECK.due("path 1 has nothing out", link.path(0, 1, Links.TIMER), 0);
        CHECK.due("path 0's timer runs", link.path(0, 0, Links.TIMER), 1);
        link.tick();
        CHECK.due("and is due at 3", link.path(0, 0, Links.ERRORS), 1);
    }

    private static void theTimerStopsWithNothingOut() {
        StreamLink link = with(1);
        CHECK.due("runs", link.path(0, 0, Links.TIMER), 1);
        Links.settle(link, 0);
        CHECK.due("stops", link.path(0, 0, Links.TIMER), 0);
        Links.ticks(link, 4);
        CHECK.due("no error", link.path(0, 0, Links.ERRORS), 0);
        link.send(0, 0, false, 2, 1);
        Links.ticks(link, 2);
        CHECK.due("a new one is due after the wait", link.path(0, 0, Links.ERRORS), 0);
        link.tick();
        CHECK.due("at 7", link.path(0, 0, Links.ERRORS), 1);
    }
}
