/** Promise 11: abort. */
public final class Promise11AbortTest {
    private static final Check CHECK = new Check("promise 11");

    public static void main(String[] args) {
        aClosedEndDoesNotAbort();
        beforeItIsUpNothingIsSent();
        anEndThatIsUpSendsAnAbort();
        theAbortGoesOnThePathToUse();
        theAbortGoesOnTheOtherPathIfThePrimaryIsNotActive();
        theAbortGoesOnThePrimaryPathIfNeitherIsActive();
        CHECK.finish();
    }

    private static void aClosedEndDoesNotAbort() {
        StreamLink link = new StreamLink(8, 5, 1);
        int[] ends = {-1, 0, 1, 2, Integer.MIN_VALUE, Integer.MAX_VALUE};
        for (int end : ends) {
            CHECK.due("abort(" + end + ")", link.abort(end), false);
        }
        CHECK.due("report", link.about(0, Links.REPORT), 0);
        Links.connect(link, 12);
        CHECK.due("abort", link.abort(0), true);
        CHECK.due("abort again", link.abort(0), false);
        CHECK.due("one ABORT", link.waiting(0, 0), 1);
    }

    private static void beforeItIsUpNothingIsSent() {
        StreamLink link = new StreamLink(8, 5, 1);
        link.open(12);
        CHECK.due("abort when waiting", link.abort(0), true);
        CHECK.due("only the INIT", link.waiting(0, 0), 1);
        CHECK.due("state", link.about(0, Links.STATE), Links.CLOSED);
        CHECK.due("report", link.about(0, Links.REPORT), 3);
        CHECK.due("own tag", link.about(0, Links.OWN), 0);
        link.open(13);
        Links.deliver(link, 0, 0, 2);
        Links.deliver(link, 1, 0, 2);
        CHECK.due("echoed", link.about(0, Links.STATE), Links.ECHOED);
        CHECK.due("abort when echoed", link.abort(0), true);
        CHECK.due("only the ECHO", link.waiting(0, 0), 1);
        CHECK.due("other tag", link.about(0, Links.OTHER), 0);
        Links.ticks(link, 3);
        CHECK.due("nothing is tried again", link.waiting(0, 0), 1);
        link.open(14);
        CHECK.due("the report stays when it opens", link.about(0, Links.REPORT), 3);
        CHECK.due("the other tag is not known yet", link.about(0, Links.OTHER), 0);
    }

    private static void anEndThatIsUpSendsAnAbort() {
        StreamLink link = Links.up(8, 5, 1, 12);
        link.send(1, 0, false, 1, 3);
        CHECK.due("abort", link.abort(1), true);
        CHECK.due("state", link.about(1, Links.STATE), Links.CLOSED);
        CHECK.due("report", link.about(1, Links.REPORT), 3);
        CHECK.due("to send", link.about(1, Links.TO_SEND), 0);
        CHECK.due("words are gone", link.word(1, 1), 0);
        CHECK.due("DATA stays under way", link.waiting(1, 0), 3);
        Links.deliver(link, 1, 0, 2);
        CHECK.due("end 0 is up still", link.about(0, Links.STATE), Links.UP);
        CHECK.due("ABORT", link.deliver(1, 0), 8);
        CHECK.due("end 0 is closed by it", link.about(0, Links.STATE), Links.CLOSED);
        CHECK.due("report of end 0", link.about(0, Links.REPORT), 3);
    }

    private static void theAbortGoesOnThePathToUse() {
        StreamLink link = Links.up(8, 5, 1, 12);
        link.primary(0, 1);
        link.abort(0);
        CHECK.due("not on path 0", link.waiting(0, 0), 0);
        CHECK.due("ABORT on path 1", link.deliver(0, 1), 8);
        CHECK.due("end 1 is closed", link.about(1, Links.STATE), Links.CLOSED);
    }

    private static void theAbortGoesOnTheOtherPathIfThePrimaryIsNotActive() {
        for (int failed = 0; failed < 2; failed++) {
            StreamLink link = Links.withOneFailed(9, failed);
            link.primary(0, failed);
            link.abort(0);
            CHECK.due("not on the primary path", link.waiting(0, failed), 0);
            CHECK.due("ABORT on the other", link.deliver(0, 1 - failed), 8);
        }
    }

    private static void theAbortGoesOnThePrimaryPathIfNeitherIsActive() {
        for (int primary = 0; primary < 2; primary++) {
            StreamLink link = Links.up(8, 9, 1, 12);
            Links.ticks(link, 32);
            Links.loseAll(link);
            CHECK.due("path 0", link.path(0, 0, Links.ACTIVE), 0);
            CHECK.due("path 1", link.path(0, 1, Links.ACTIVE), 0);
            link.primary(0, primary);
            link.abort(0);
            CHECK.due("not on the other path", link.waiting(0, 1 - primary), 0);
            CHECK.due("ABORT on the primary one", link.deliver(0, primary), 8);
        }
    }
}
