/** Promise 7: tick; timers, errors, beats and closing by them. */
public final class Promise07TickTest {
    private static final Check CHECK = new Check("promise 7");

    public static void main(String[] args) {
        ticksAreCounted();
        aTimerMarksAllWordsOutOnItsPath();
        theWaitDoublesUpToTwentyFour();
        markedWordsComeBeforeNewOnes();
        markedWordsAreBoundByTheRate();
        bothTimersInOneTick();
        beatsGoOnIdlePathsEveryEightTicks();
        anOpenBeatIsAnError();
        threeErrorsMakeAPathInactive();
        tooManyErrorsClose();
        tooManyErrorsByTimersClose();
        theAbortGoesOnThePathToUse();
        anEndThatClosesDoesNoMore();
        bothEndsAreServed();
        CHECK.finish();
    }

    private static void ticksAreCounted() {
        StreamLink link = new StreamLink(8, 5, 1);
        for (int i = 1; i <= 40; i++) {
            CHECK.due("tick", link.tick(), i);
        }
        CHECK.due("closed ends send nothing", link.waiting(0, 0) + link.waiting(1, 1), 0);
    }

    private static void aTimerMarksAllWordsOutOnItsPath() {
        StreamLink link = Links.up(16, 9, 1, 12);
        link.send(0, 0, false, 1, 4);
        Links.ticks(link, 2);
        CHECK.due("not yet", link.path(0, 0, Links.OUT_ON), 2);
        CHECK.due("not yet", link.waiting(0, 1), 0);
        link.tick();
        CHECK.due("rate", link.path(0, 0, Links.RATE), 1);
        CHECK.due("wait", link.path(0, 0, Links.WAIT), 6);
        CHECK.due("errors", link.path(0, 0, Links.ERRORS), 1);
        CHECK.due("all errors", link.about(0, Links.ALL_ERRORS), 1);
        CHECK.due("still active", link.path(0, 0, Links.ACTIVE), 1);
        // Words 1 and 2 go on path 1; then word 3, new, on path 0 with its rate 1.
        CHECK.due("out on path 1", link.path(0, 1, Links.OUT_ON), 2);
        CHECK.due("out on path 0", link.path(0, 0, Links.OUT_ON), 1);
        CHECK.due("word 3", link.word(0, 3), 2);
        CHECK.due("word 4", link.word(0, 4), 1);
        CHECK.due("timer of path 1", link.path(0, 1, Links.TIMER), 1);
        CHECK.due("timer of path 0", link.path(0, 0, Links.TIMER), 1);
        Links.ticks(link, 2);
        CHECK.due("path 1 is due at 6", link.path(0, 1, Links.ERRORS), 0);
        link.tick();
        CHECK.due("path 1 is due at 6", link.path(0, 1, Links.ERRORS), 1);
        CHECK.due("path 0 is not, with wait 6", link.path(0, 0, Links.ERRORS), 1);
    }

    private static void theWaitDoublesUpToTwentyFour() {
        StreamLink link = Links.up(16, 9, 1, 12);
        // Path 1 fails by beats at 16, 24, 32, so that from then on all goes on path 0.
        for (int i = 0; i < 4; i++) {
            Links.ticks(link, 8);
            Links.settle(link, 0);
        }
        CHECK.due("path 1 is not active", link.path(0, 1, Links.ACTIVE), 0);
        link.send(0, 0, false, 1, 1);
        int[] waits = {6, 12, 24, 24};
        int[] ticks = {3, 6, 12, 24};
        for (int i = 0; i < waits.length; i++) {
            Links.ticks(link, ticks[i] - 1);
            CHECK.due("wait before", link.path(0, 0, Links.WAIT), ticks[i]);
            Links.lose(link, 0, 0, 8);
            link.tick();
            CHECK.due("wait after", link.path(0, 0, Links.WAIT), waits[i]);
        }
    }

    private static void markedWordsComeBeforeNewOnes() {
        StreamLink link = Links.up(16, 9, 1, 12);
        link.send(0, 0, false, 1, 4);
        link.send(0, 0, false, 5, 4);
        link.send(0, 0, false, 9, 4);
        Links.ticks(link, 3);
        int[] states = {2, 2, 2, 1, 1};
        for (int i = 0; i < states.length; i++) {
            CHECK.due("word " + (i + 1), link.word(0, i + 1), states[i]);
        }
        Links.lose(link, 0, 0, 2);
        CHECK.due("word 3 on path 0", link.deliver(0, 0), 4);
        CHECK.due("is above a gap", link.about(1, Links.LATEST), 0);
        Links.deliver(link, 0, 1, 2);
        CHECK.due("words 1 and 2 on path 1", link.about(1, Links.LATEST), 3);
    }

    private static void markedWordsAreBoundByTheRate() {
        StreamLink link = Links.up(16, 9, 1, 12);
        for (int i = 0; i < 2; i++) {
            link.send(0, 0, true, 1, 1);
            Links.settle(link, 0);
        }
        for (int i = 0; i < 6; i++) {
            link.send(0, 0, true, 1, 1);
        }
        CHECK.due("out on path 0", link.path(0, 0, Links.OUT_ON), 4);
        Links.ticks(link, 3);
        CHECK.due("two go on path 1", link.path(0, 1, Links.OUT_ON), 2);
        CHECK.due("the third is marked and holds all up", link.word(0, 5), 3);
        CHECK.due("the fourth, too", link.word(0, 6), 3);
        CHECK.due("new ones wait behind", link.word(0, 7), 1);
        CHECK.due("nothing on path 0", link.path(0, 0, Links.OUT_ON), 0);
        CHECK.due("its timer does not run", link.path(0, 0, Links.TIMER), 0);
        CHECK.due("to send", link.about(0, Links.TO_SEND), 6);
    }

    private static void bothTimersInOneTick() {
        StreamLink link = Links.up(16, 9, 1, 12);
        link.send(0, 0, false, 1, 1);
        link.primary(0, 1);
        link.send(0, 0, false, 2, 1);
        Links.ticks(link, 3);
        CHECK.due("error of path 0", link.path(0, 0, Links.ERRORS), 1);
        CHECK.due("error of path 1", link.path(0, 1, Links.ERRORS), 1);
        CHECK.due("all errors", link.about(0, Links.ALL_ERRORS), 2);
        CHECK.due("word 2 on path 0", link.path(0, 0, Links.OUT_ON), 1);
        CHECK.due("word 1 on path 1", link.path(0, 1, Links.OUT_ON), 1);
    }

    private static void beatsGoOnIdlePathsEveryEightTicks() {
        StreamLink link = Links.up(16, 9, 1, 12);
        Links.ticks(link, 7);
        CHECK.due("none at 7", link.waiting(0, 0) + link.waiting(0, 1), 0);
        link.send(0, 0, false, 1, 1);
        link.tick();
        CHECK.due("path 0 is not idle", link.waiting(0, 0), 1);
        CHECK.due("no beat open", link.path(0, 0, Links.BEAT_OPEN), 0);
        CHECK.due("BEAT on path 1", link.deliver(0, 1), 6);
        CHECK.due("beat open", link.path(0, 1, Links.BEAT_OPEN), 1);
        CHECK.due("end 1 beats on both", link.waiting(1, 0), 1);
        Links.settle(link, 0);
        Links.settle(link, 1);
        Links.ticks(link, 7);
        CHECK.due("none at 15", link.waiting(0, 0) + link.waiting(0, 1), 0);
        link.tick();
        CHECK.due("BEAT on path 0 at 16", link.deliver(0, 0), 6);
        CHECK.due("BEAT on path 1 at 16", link.deliver(0, 1), 6);
        CHECK.due("no errors", link.about(0, Links.ALL_ERRORS), 0);
        aTimerThatIsDueGoesBeforeABeat();
    }

    private static void aTimerThatIsDueGoesBeforeABeat() {
        StreamLink link = Links.up(16, 9, 1, 12);
        Links.ticks(link, 5);
        link.send(0, 0, false, 1, 1);
        Links.ticks(link, 3);
        CHECK.due("an error of path 0 at 8", link.path(0, 0, Links.ERRORS), 1);
        CHECK.due("and no beat there", link.path(0, 0, Links.BEAT_OPEN), 0);
        CHECK.due("path 1 was idle, so it has one", link.path(0, 1, Links.BEAT_OPEN), 1);
        CHECK.due("before the word", link.deliver(0, 1), 6);
        CHECK.due("that goes there then", link.deliver(0, 1), 4);
    }

    private static void anOpenBeatIsAnError() {
        StreamLink link = Links.up(16, 9, 1, 12);
        Links.ticks(link, 8);
        CHECK.due("no error at 8", link.about(0, Links.ALL_ERRORS), 0);
        Links.ticks(link, 7);
        CHECK.due("no error at 15", link.about(0, Links.ALL_ERRORS), 0);
        link.tick();
        CHECK.due("error of path 0 at 16", link.path(0, 0, Links.ERRORS), 1);
        CHECK.due("error of path 1 at 16", link.path(0, 1, Links.ERRORS), 1);
        CHECK.due("all errors", link.about(0, Links.ALL_ERRORS), 2);
        CHECK.due("a new BEAT is sent", link.waiting(0, 0), 2);
        CHECK.due("rate stays", link.path(0, 0, Links.RATE), 2);
        CHECK.due("wait stays", link.path(0, 0, Links.WAIT), 3);
    }

    private static void threeErrorsMakeAPathInactive() {
        StreamLink link = Links.up(16, 9, 1, 12);
        Links.ticks(link, 24);
        CHECK.due("two errors", link.path(0, 0, Links.ERRORS), 2);
        CHECK.due("active", link.path(0, 0, Links.ACTIVE), 1);
        Links.settle(link, 1);
        Links.ticks(link, 8);
        CHECK.due("three errors", link.path(0, 0, Links.ERRORS), 3);
        CHECK.due("not active", link.path(0, 0, Links.ACTIVE), 0);
        CHECK.due("the other is", link.path(0, 1, Links.ACTIVE), 1);
        CHECK.due("and to use", link.about(0, Links.TO_USE), 1);
        link.send(0, 0, false, 1, 1);
        CHECK.due("words go there", link.path(0, 1, Links.OUT_ON), 1);
    }

    private static void tooManyErrorsClose() {
        StreamLink link = Links.up(16, 4, 1, 12);
        Links.ticks(link, 24);
        CHECK.due("all errors at the limit", link.about(0, Links.ALL_ERRORS), 4);
        CHECK.due("up", link.about(0, Links.STATE), Links.UP);
        Links.ticks(link, 7);
        CHECK.due("row at 31", link.waiting(0, 0), 3);
        CHECK.due("row at 31", link.waiting(0, 1), 3);
        link.tick();
        CHECK.due("closed", link.about(0, Links.STATE), Links.CLOSED);
        CHECK.due("report", link.about(0, Links.REPORT), 1);
        CHECK.due("own tag", link.about(0, Links.OWN), 0);
        // Path 0 has its third error by this and is not active: the ABORT goes on path 1.
        CHECK.due("no more on path 0", link.waiting(0, 0), 3);
        CHECK.due("ABORT on path 1", link.waiting(0, 1), 4);
        Links.lose(link, 0, 1, 3);
        Links.lose(link, 1, 1, 8);
        CHECK.due("ABORT", link.deliver(0, 1), 8);
        CHECK.due("end 1 had closed by itself", link.about(1, Links.REPORT), 1);
    }

    private static void tooManyErrorsByTimersClose() {
        StreamLink link = Links.up(16, 2, 1, 12);
        link.send(0, 0, false, 1, 1);
        // Errors at 3 on path 0 and at 6 on path 1; path 0 is due again at 12.
        Links.ticks(link, 11);
        CHECK.due("all errors", link.about(0, Links.ALL_ERRORS), 2);
        CHECK.due("up", link.about(0, Links.STATE), Links.UP);
        Links.loseAll(link);
        link.tick();
        CHECK.due("closed", link.about(0, Links.STATE), Links.CLOSED);
        CHECK.due("report", link.about(0, Links.REPORT), 1);
        CHECK.due("ABORT on path 0, with two errors", link.deliver(0, 0), 8);
        CHECK.due("and nothing else", link.waiting(0, 0) + link.waiting(0, 1), 0);
        CHECK.due("end 1 is closed by it", link.about(1, Links.REPORT), 3);
    }

    private static void theAbortGoesOnThePathToUse() {
        StreamLink link = Links.up(16, 2, 1, 12);
        link.primary(0, 1);
        Links.ticks(link, 23);
        Links.loseAll(link);
        link.tick();
        CHECK.due("closed", link.about(0, Links.REPORT), 1);
        CHECK.due("not on path 0", link.waiting(0, 0), 0);
        CHECK.due("ABORT on path 1", link.deliver(0, 1), 8);
    }

    private static void anEndThatClosesDoesNoMore() {
        StreamLink link = Links.up(16, 3, 1, 12);
        Links.ticks(link, 23);
        Links.loseAll(link);
        link.tick();
        // At 24 the third and fourth error: path 0 sends its BEAT, path 1 closes the end.
        CHECK.due("closed", link.about(0, Links.REPORT), 1);
        CHECK.due("BEAT on path 0", link.deliver(0, 0), 6);
        CHECK.due("then ABORT, with two errors there", link.deliver(0, 0), 8);
        CHECK.due("no BEAT on path 1", link.waiting(0, 1), 0);
    }

    private static void bothEndsAreServed() {
        StreamLink link = Links.up(16, 9, 1, 12);
        link.send(1, 0, false, 1, 1);
        Links.ticks(link, 3);
        CHECK.due("end 1's timer", link.path(1, 0, Links.ERRORS), 1);
        CHECK.due("its word on path 1", link.waiting(1, 1), 1);
        CHECK.due("end 0 has no error", link.about(0, Links.ALL_ERRORS), 0);
    }
}
