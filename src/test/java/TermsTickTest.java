/** Terms, A TICK and AN ERROR: timers, beats and tries just before, at and after their time. */
public final class TermsTickTest {
    private static final Check CHECK = new Check("terms, tick");

    public static void main(String[] args) {
        triesAreCountedFromTheInitAck();
        aTryThatIsDueAtAMultipleOfEightBeatsNot();
        aTimerMarksWordsOnItsPathOnly();
        aTimerSetsTheRateToOne();
        aTimerMarksAllWordsOut();
        aTimerDueAtAMultipleOfEight();
        markedWordsDoNotHoldABeatBack();
        heldWordsDoNotHoldABeatBack();
        aWordOutHoldsABeatBackOnItsPathOnly();
        anOpenBeatIsNoErrorWhileWordsAreOut();
        aPathThatIsNotActiveHasBeatsToo();
        twoErrorsOfATimerLeaveAPathActive();
        errorsOfBothPathsCountForAll();
        theAbortGoesWhereThePathToUseIsThen();
        theOtherEndGoesOn();
        wordsGoAfterAllPathsHadTheirTurn();
        everyTickSendsWhatItMay();
        CHECK.finish();
    }

    private static void triesAreCountedFromTheInitAck() {
        for (int limit = 2; limit <= 9; limit++) {
            StreamLink link = new StreamLink(8, limit, 1);
            link.open(12);
            Links.ticks(link, 2);
            link.deliver(0, 0);
            link.deliver(1, 0);
            int[] sent = {1, 0};
            for (int tries = 2; tries <= limit; tries++) {
                Links.ticks(link, 2);
                CHECK.due("not before it is due", link.waiting(0, 0) + link.waiting(0, 1),
                    sent[0] + sent[1]);
                link.tick();
                sent[tries % 2]++;
                CHECK.due("on path 0", link.waiting(0, 0), sent[0]);
                CHECK.due("on path 1", link.waiting(0, 1), sent[1]);
            }
            Links.ticks(link, 2);
            CHECK.due("echoed", link.about(0, Links.STATE), Links.ECHOED);
            link.tick();
            CHECK.due("closed", link.about(0, Links.STATE), Links.CLOSED);
            CHECK.due("report", link.about(0, Links.REPORT), 2);
            CHECK.due("nothing is sent by that", link.waiting(0, 0) + link.waiting(0, 1), limit);
        }
    }

    private static void aTryThatIsDueAtAMultipleOfEightBeatsNot() {
        StreamLink link = new StreamLink(8, 9, 1);
        Links.ticks(link, 5);
        link.open(12);
        Links.ticks(link, 3);
        CHECK.due("two INITs at 8", link.waiting(0, 0), 2);
        CHECK.due("no BEAT", link.waiting(0, 1), 0);
        CHECK.due("INIT", link.deliver(0, 0), 0);
        CHECK.due("INIT", link.deliver(0, 0), 0);
    }

    private static void aTimerMarksWordsOnItsPathOnly() {
        StreamLink link = Links.up(16, 9, 1, 12);
        link.send(0, 0, false, 1, 1);
        link.tick();
        link.primary(0, 1);
        link.send(0, 0, false, 2, 1);
        Links.ticks(link, 2);
        CHECK.due("word 1 joins word 2 on path 1", link.path(0, 1, Links.OUT_ON), 2);
        CHECK.due("nothing is on path 0", link.path(0, 0, Links.OUT_ON), 0);
        CHECK.due("path 1 has no error", link.path(0, 1, Links.ERRORS), 0);
        CHECK.due("rate of path 1", link.path(0, 1, Links.RATE), 2);
        link.tick();
        CHECK.due("path 1 is due at 4, by word 2", link.path(0, 1, Links.ERRORS), 1);
    }

    private static void aTimerSetsTheRateToOne() {
        for (int rate = 2; rate <= 8; rate++) {
            StreamLink link = Links.up(16, 9, 1, 12);
            for (int i = 2; i < rate; i++) {
                link.send(0, 0, true, 1, 1);
                Links.settle(link, 0);
            }
            CHECK.due("rate", link.path(0, 0, Links.RATE), rate);
            link.send(0, 0, true, 1, 1);
            Links.ticks(link, 3);
            CHECK.due("rate of 1, from " + rate, link.path(0, 0, Links.RATE), 1);
            CHECK.due("the other's rate", link.path(0, 1, Links.RATE), 2);
        }
    }

    private static void aTimerMarksAllWordsOut() {
        StreamLink link = Links.up(16, 9, 1, 12);
        for (int i = 0; i < 3; i++) {
            link.send(0, 0, true, 1, 1);
            Links.settle(link, 0);
            link.read(1, 0);
        }
        link.send(0, 0, true, 1, 4);
        link.send(0, 0, true, 1, 2);
        CHECK.due("five are out", link.path(0, 0, Links.OUT_ON), 5);
        Links.ticks(link, 3);
        int[] states = {2, 2, 3, 3, 3, 1};
        for (int i = 0; i < states.length; i++) {
            CHECK.due("word " + (4 + i), link.word(0, 4 + i), states[i]);
        }
    }

    private static void aTimerDueAtAMultipleOfEight() {
        StreamLink link = Links.up(16, 9, 1, 12);
        Links.ticks(link, 8);
        Links.settle(link, 1);
        Links.loseAll(link);
        CHECK.due("a beat of 8 is open on path 0", link.path(0, 0, Links.BEAT_OPEN), 1);
        Links.ticks(link, 5);
        link.send(0, 0, false, 1, 1);
        Links.ticks(link, 3);
        CHECK.due("one error at 16, not two", link.path(0, 0, Links.ERRORS), 1);
        CHECK.due("all errors", link.about(0, Links.ALL_ERRORS), 1);
        CHECK.due("no BEAT on path 0, only DATA", link.waiting(0, 0), 1);
        CHECK.due("the beat of 8 is open still", link.path(0, 0, Links.BEAT_OPEN), 1);
        CHECK.due("BEAT and DATA on path 1", link.waiting(0, 1), 2);
    }

    /** Rate 4: at 3 two of four words go on path 1, at 6 the first of these on path 0 again. */
    private static void markedWordsDoNotHoldABeatBack() {
        StreamLink link = Links.up(16, 9, 1, 12);
        for (int i = 0; i < 2; i++) {
            link.send(0, 0, true, 1, 1);
            Links.settle(link, 0);
        }
        for (int i = 0; i < 4; i++) {
            link.send(0, 0, true, 1, 1);
        }
        Links.ticks(link, 7);
        CHECK.due("word 3 is out on path 0", link.path(0, 0, Links.OUT_ON), 1);
        CHECK.due("word 4, of path 1, is marked", link.word(0, 4), 3);
        CHECK.due("nothing is out on path 1", link.path(0, 1, Links.OUT_ON), 0);
        Links.loseAllFrom(link, 0);
        link.tick();
        CHECK.due("BEAT on path 1", link.deliver(0, 1), 6);
        CHECK.due("it is open", link.path(0, 1, Links.BEAT_OPEN), 1);
        CHECK.due("none on path 0", link.waiting(0, 0), 0);
    }

    private static void heldWordsDoNotHoldABeatBack() {
        StreamLink link = Links.up(16, 9, 1, 12);
        Links.ticks(link, 7);
        link.send(0, 0, true, 1, 1);
        link.primary(0, 1);
        link.send(0, 0, true, 2, 1);
        link.deliver(0, 1);
        link.deliver(1, 1);
        CHECK.due("word 2, of path 1, is held", link.word(0, 2), 4);
        CHECK.due("word 1 is out on path 0", link.path(0, 0, Links.OUT_ON), 1);
        link.tick();
        CHECK.due("BEAT on path 1", link.path(0, 1, Links.BEAT_OPEN), 1);
        CHECK.due("none on path 0", link.path(0, 0, Links.BEAT_OPEN), 0);
    }

    private static void aWordOutHoldsABeatBackOnItsPathOnly() {
        for (int busy = 0; busy < 2; busy++) {
            StreamLink link = Links.up(16, 9, 1, 12);
            Links.ticks(link, 7);
            link.primary(0, busy);
            link.send(0, 0, true, 1, 1);
            link.tick();
            CHECK.due("none with a word out", link.path(0, busy, Links.BEAT_OPEN), 0);
            CHECK.due("only DATA", link.waiting(0, busy), 1);
            CHECK.due("one without", link.path(0, 1 - busy, Links.BEAT_OPEN), 1);
            CHECK.due("BEAT", link.waiting(0, 1 - busy), 1);
        }
    }

    private static void anOpenBeatIsNoErrorWhileWordsAreOut() {
        StreamLink link = Links.up(16, 9, 1, 12);
        Links.ticks(link, 15);
        CHECK.due("a beat of 8 is open", link.path(0, 0, Links.BEAT_OPEN), 1);
        link.send(0, 0, false, 1, 1);
        link.tick();
        CHECK.due("no error at 16", link.path(0, 0, Links.ERRORS), 0);
        CHECK.due("but on path 1", link.path(0, 1, Links.ERRORS), 1);
        CHECK.due("BEAT of 8 and DATA on path 0", link.waiting(0, 0), 2);
    }

    private static void aPathThatIsNotActiveHasBeatsToo() {
        StreamLink link = Links.withOneFailed(9, 0);
        CHECK.due("errors at 32", link.path(0, 0, Links.ERRORS), 3);
        Links.ticks(link, 8);
        CHECK.due("errors at 40", link.path(0, 0, Links.ERRORS), 4);
        CHECK.due("not active", link.path(0, 0, Links.ACTIVE), 0);
        CHECK.due("BEAT", link.waiting(0, 0), 1);
        Links.settle(link, 0);
        CHECK.due("its answer makes it active", link.path(0, 0, Links.ACTIVE), 1);
        CHECK.due("and well", link.path(0, 0, Links.ERRORS), 0);
        CHECK.due("and used again", link.about(0, Links.TO_USE), 0);
    }

    /** Path 1 is not active, so one word goes on path 0 again and again: at 35, 41 and 53. */
    private static void twoErrorsOfATimerLeaveAPathActive() {
        StreamLink link = Links.withOneFailed(9, 1);
        link.send(0, 0, false, 1, 1);
        Links.ticks(link, 20);
        CHECK.due("two errors", link.path(0, 0, Links.ERRORS), 2);
        CHECK.due("active", link.path(0, 0, Links.ACTIVE), 1);
        link.tick();
        CHECK.due("three errors", link.path(0, 0, Links.ERRORS), 3);
        CHECK.due("not active", link.path(0, 0, Links.ACTIVE), 0);
        CHECK.due("wait", link.path(0, 0, Links.WAIT), 24);
        CHECK.due("the primary path is used all the same", link.path(0, 0, Links.OUT_ON), 1);
    }

    private static void errorsOfBothPathsCountForAll() {
        for (int limit = 2; limit <= 9; limit++) {
            StreamLink link = Links.up(16, limit, 1, 12);
            // From 16 on both paths have an error each at every eighth tick.
            int lastRound = 16 + 8 * (limit / 2);
            Links.ticks(link, lastRound - 1);
            CHECK.due("errors below or at the limit", link.about(0, Links.ALL_ERRORS),
                2 * (limit / 2));
            CHECK.due("up", link.about(0, Links.STATE), Links.UP);
            link.tick();
            CHECK.due("above it", link.about(0, Links.STATE), Links.CLOSED);
            CHECK.due("report", link.about(0, Links.REPORT), 1);
        }
    }

    /**
     * Limit 4; path 1, the primary one, is not active. With the third error of path 0 at 53 there
     * are five in all, neither path is active, and the path to use is the primary one.
     */
    private static void theAbortGoesWhereThePathToUseIsThen() {
        StreamLink link = Links.withOneFailed(4, 1);
        link.primary(0, 1);
        link.send(0, 0, false, 1, 1);
        CHECK.due("path to use", link.about(0, Links.TO_USE), 0);
        Links.ticks(link, 20);
        CHECK.due("all errors", link.about(0, Links.ALL_ERRORS), 4);
        CHECK.due("path to use", link.about(0, Links.TO_USE), 0);
        Links.loseAllFrom(link, 0);
        link.tick();
        CHECK.due("closed", link.about(0, Links.REPORT), 1);
        CHECK.due("ABORT on path 1", link.deliver(0, 1), 8);
        CHECK.due("nothing on path 0", link.waiting(0, 0), 0);
    }

    /** End 0 has its third error at 9 and is closed; end 1 goes on until it has its own at 12. */
    private static void theOtherEndGoesOn() {
        StreamLink link = Links.up(16, 2, 1, 12);
        link.send(1, 0, false, 9, 1);
        link.primary(0, 1);
        link.send(0, 0, false, 1, 1);
        link.primary(0, 0);
        link.send(0, 0, false, 2, 1);
        // Both paths of end 0 fail at 3, and at 9, with wait 6, path 0 again.
        Links.ticks(link, 8);
        CHECK.due("two errors of end 0", link.about(0, Links.ALL_ERRORS), 2);
        Links.loseAll(link);
        int errors = link.about(1, Links.ALL_ERRORS);
        CHECK.due("two errors of end 1, at 3 and 6", errors, 2);
        link.tick();
        CHECK.due("end 0 is closed at 9", link.about(0, Links.REPORT), 1);
        CHECK.due("one ABORT and nothing else", link.waiting(0, 0) + link.waiting(0, 1), 1);
        CHECK.due("end 1 is up", link.about(1, Links.STATE), Links.UP);
        Links.ticks(link, 2);
        CHECK.due("and up at 11", link.about(1, Links.STATE), Links.UP);
        link.tick();
        CHECK.due("until its own third error at 12", link.about(1, Links.REPORT), 1);
        bothEndsInOneTick();
    }

    /** At 24 end 0 has one error too many, and end 1, whose beats were answered, beats on. */
    private static void bothEndsInOneTick() {
        StreamLink link = Links.up(16, 2, 1, 12);
        for (int i = 0; i < 2; i++) {
            Links.ticks(link, 8);
            Links.loseAllFrom(link, 0);
            Links.deliver(link, 1, 0, 1);
            Links.deliver(link, 1, 1, 1);
            link.deliver(0, 0);
            link.deliver(0, 1);
        }
        CHECK.due("errors of end 0", link.about(0, Links.ALL_ERRORS), 2);
        CHECK.due("errors of end 1", link.about(1, Links.ALL_ERRORS), 0);
        Links.ticks(link, 7);
        Links.loseAll(link);
        link.tick();
        CHECK.due("end 0 is closed", link.about(0, Links.REPORT), 1);
        CHECK.due("end 1 beats on path 0", link.deliver(1, 0), 6);
        CHECK.due("and on path 1", link.deliver(1, 1), 6);
    }

    /** Both timers are due at 3: words go on the other path only after both have been marked. */
    private static void wordsGoAfterAllPathsHadTheirTurn() {
        StreamLink link = Links.up(16, 9, 1, 12);
        link.send(0, 0, false, 1, 2);
        link.primary(0, 1);
        link.send(0, 0, false, 3, 2);
        Links.ticks(link, 3);
        CHECK.due("rate of path 0", link.path(0, 0, Links.RATE), 1);
        CHECK.due("rate of path 1", link.path(0, 1, Links.RATE), 1);
        int[] states = {2, 3, 3, 3};
        for (int i = 0; i < states.length; i++) {
            CHECK.due("word " + (i + 1), link.word(0, i + 1), states[i]);
        }
        CHECK.due("word 1 on path 1", link.path(0, 1, Links.OUT_ON), 1);
        CHECK.due("word 2 finds it full", link.path(0, 0, Links.OUT_ON), 0);
    }

    private static void everyTickSendsWhatItMay() {
        StreamLink link = Links.up(16, 9, 1, 12);
        link.send(0, 0, false, 1, 3);
        link.primary(0, 1);
        CHECK.due("word 3 is new", link.word(0, 3), 1);
        link.tick();
        CHECK.due("no timer was due", link.path(0, 0, Links.OUT_ON), 2);
        CHECK.due("and word 3 goes all the same", link.path(0, 1, Links.OUT_ON), 1);
        Links.ticks(link, 2);
        CHECK.due("path 0 is due at 3", link.path(0, 0, Links.ERRORS), 1);
        CHECK.due("path 1 is not", link.path(0, 1, Links.ERRORS), 0);
        link.tick();
        CHECK.due("but at 4", link.path(0, 1, Links.ERRORS), 1);
    }
}
