/** Terms, the making of a connection: packets that come in the wrong state, too late or not true. */
public final class TermsMakingTest {
    private static final Check CHECK = new Check("terms, making");
    private static final int KEY = 31;

    public static void main(String[] args) {
        anInitAckWhenUpDoesNothing();
        anInitAckWhenClosedDoesNothing();
        anEchoAckWhenWaitingDoesNothing();
        anEchoAckWithAnotherTagDoesNothing();
        anEchoAckWhenClosedDoesNothing();
        anEchoAgainIsAnsweredForTwentyTicks();
        anEchoAgainMustBeTrueToo();
        theEchoSentAgainHasTheFirstCookie();
        theEchoGoesOnThePathOfTheInitAck();
        dataWhenEchoedDoesNothing();
        dataWhenWaitingDoesNothing();
        aBeatWhenNotUpDoesNothing();
        anAbortWhenClosedDoesNothing();
        CHECK.finish();
    }

    private static void anInitAckWhenUpDoesNothing() {
        StreamLink link = Links.up(8, 5, KEY, 12);
        link.send(0, 0, false, 1, 1);
        link.alter(0, 0, false);
        link.forge(1, 0, 0, 12, 0, 0, 0);
        CHECK.due("a forged INIT", link.deliver(0, 0), 0);
        CHECK.due("INITACK with end 0's own tag", link.deliver(1, 0), 1);
        CHECK.due("up still", link.about(0, Links.STATE), Links.UP);
        CHECK.due("no ECHO", link.waiting(0, 0), 0);
        CHECK.due("its word is there", link.about(0, Links.TO_SEND), 1);
    }

    private static void anInitAckWhenClosedDoesNothing() {
        StreamLink link = new StreamLink(8, 5, KEY);
        link.open(12);
        link.deliver(0, 0);
        link.abort(0);
        CHECK.due("INITACK", link.deliver(1, 0), 1);
        CHECK.due("closed still", link.about(0, Links.STATE), Links.CLOSED);
        CHECK.due("no ECHO", link.waiting(0, 0), 0);
        CHECK.due("no other tag", link.about(0, Links.OTHER), 0);
    }

    private static void anEchoAckWhenWaitingDoesNothing() {
        StreamLink link = new StreamLink(8, 5, KEY);
        Links.forgeGoodEcho(link, KEY, 12, 0);
        link.deliver(0, 0);
        CHECK.due("end 1 is up", link.about(1, Links.OTHER), 12);
        link.open(12);
        CHECK.due("ECHOACK with end 0's own tag", link.deliver(1, 0), 3);
        CHECK.due("waiting still", link.about(0, Links.STATE), Links.WAITING);
        CHECK.due("no window", link.about(0, Links.WINDOW), 0);
        Links.settle(link, 0);
        CHECK.due("up by all four packets", link.about(0, Links.STATE), Links.UP);
    }

    private static void anEchoAckWithAnotherTagDoesNothing() {
        StreamLink link = new StreamLink(8, 5, KEY);
        link.open(12);
        link.deliver(0, 0);
        link.deliver(1, 0);
        link.alter(0, 0, false);
        Links.forgeGoodEcho(link, KEY, 13, 0);
        link.deliver(0, 0);
        CHECK.due("end 1 is up for another", link.about(1, Links.OTHER), 13);
        CHECK.due("ECHOACK with tag 13", link.deliver(1, 0), 3);
        CHECK.due("echoed still", link.about(0, Links.STATE), Links.ECHOED);
    }

    private static void anEchoAckWhenClosedDoesNothing() {
        StreamLink link = new StreamLink(8, 5, KEY);
        link.open(12);
        link.deliver(0, 0);
        link.deliver(1, 0);
        link.deliver(0, 0);
        link.abort(0);
        CHECK.due("ECHOACK", link.deliver(1, 0), 3);
        CHECK.due("closed still", link.about(0, Links.STATE), Links.CLOSED);
        CHECK.due("report", link.about(0, Links.REPORT), 3);
    }

    private static void anEchoAgainIsAnsweredForTwentyTicks() {
        StreamLink link = new StreamLink(8, 9, KEY);
        for (int i = 0; i < 4; i++) {
            Links.forgeGoodEcho(link, KEY, 12, 0);
        }
        link.deliver(0, 0);
        CHECK.due("end 1 is up", link.about(1, Links.STATE), Links.UP);
        CHECK.due("ECHOACK", link.deliver(1, 0), 3);
        Links.ticks(link, 19);
        Links.loseAllFrom(link, 1);
        link.deliver(0, 0);
        CHECK.due("ECHOACK at 19", link.deliver(1, 0), 3);
        link.tick();
        link.deliver(0, 0);
        CHECK.due("ECHOACK at 20", link.deliver(1, 0), 3);
        link.tick();
        CHECK.due("ECHO at 21", link.deliver(0, 0), 2);
        CHECK.due("no ECHOACK", link.waiting(1, 0), 0);
        CHECK.due("up all the same", link.about(1, Links.STATE), Links.UP);
    }

    private static void anEchoAgainMustBeTrueToo() {
        StreamLink link = new StreamLink(8, 9, KEY);
        int s = Links.serverTag(KEY, 12);
        int seal = Links.seal(KEY, 12, 0);
        // All are forged before end 1 has this tag; the first one gives it to end 1.
        link.forge(1, 2, s, 12, s, 0, seal);
        link.forge(1, 2, s, 12, s, 0, seal + 1);
        link.forge(1, 2, s, 12, s, 1, Links.seal(KEY, 12, 1));
        link.forge(1, 2, s + 1, 12, s, 0, seal);
        link.deliver(0, 0);
        CHECK.due("ECHOACK", link.deliver(1, 0), 3);
        String[] faults = {"a wrong seal", "a tick after now", "another tag of the packet"};
        for (String fault : faults) {
            CHECK.due("ECHO with " + fault, link.deliver(0, 0), 2);
            CHECK.due("no ECHOACK with " + fault, link.waiting(1, 0), 0);
        }
    }

    private static void theEchoSentAgainHasTheFirstCookie() {
        StreamLink link = new StreamLink(8, 9, KEY);
        link.open(12);
        link.deliver(0, 0);
        link.deliver(1, 0);
        Links.ticks(link, 20);
        Links.lose(link, 0, 0, 8);
        link.tick();
        CHECK.due("one ECHO, sent at 21", link.waiting(0, 0), 1);
        CHECK.due("ECHO", link.deliver(0, 0), 2);
        CHECK.due("its cookie is of tick 0", link.about(1, Links.STATE), Links.CLOSED);
    }

    private static void theEchoGoesOnThePathOfTheInitAck() {
        StreamLink link = new StreamLink(8, 9, KEY);
        link.open(12);
        Links.ticks(link, 6);
        link.deliver(0, 1);
        CHECK.due("INITACK on path 1", link.deliver(1, 1), 1);
        Links.lose(link, 0, 0, 8);
        CHECK.due("ECHO on path 1", link.waiting(0, 1), 1);
        Links.ticks(link, 3);
        CHECK.due("the next one on path 0", link.deliver(0, 0), 2);
    }

    private static void dataWhenEchoedDoesNothing() {
        StreamLink link = new StreamLink(8, 5, KEY);
        link.open(12);
        link.deliver(0, 0);
        link.deliver(1, 0);
        link.deliver(0, 0);
        CHECK.due("the ECHOACK is lost", link.alter(1, 0, false), true);
        link.send(1, 0, false, 9, 1);
        link.alter(1, 0, true);
        CHECK.due("DATA", link.deliver(1, 0), 4);
        CHECK.due("no SACK", link.waiting(0, 0), 0);
        CHECK.due("echoed still", link.about(0, Links.STATE), Links.ECHOED);
        CHECK.due("nothing kept", link.about(0, Links.KEPT), 0);
        CHECK.due("nothing ready", link.ready(0, 0), 0);
        Links.ticks(link, 3);
        CHECK.due("ECHO", link.deliver(0, 0), 2);
        Links.toTheEnd(link, 1, 0);
        CHECK.due("ECHOACK", link.deliver(1, 0), 3);
        CHECK.due("up", link.about(0, Links.STATE), Links.UP);
        CHECK.due("nothing had", link.about(0, Links.LATEST), 0);
        CHECK.due("DATA again", link.deliver(1, 0), 4);
        CHECK.due("now it is had", link.read(0, 0), 9);
    }

    private static void dataWhenWaitingDoesNothing() {
        StreamLink link = new StreamLink(8, 5, KEY);
        Links.forgeGoodEcho(link, KEY, 12, 0);
        link.deliver(0, 0);
        link.alter(1, 0, false);
        link.send(1, 0, false, 9, 1);
        link.open(12);
        CHECK.due("DATA with end 0's own tag", link.deliver(1, 0), 4);
        CHECK.due("no SACK, only the INIT", link.waiting(0, 0), 1);
        CHECK.due("waiting still", link.about(0, Links.STATE), Links.WAITING);
        CHECK.due("nothing kept", link.about(0, Links.KEPT), 0);
    }

    private static void aBeatWhenNotUpDoesNothing() {
        StreamLink link = new StreamLink(8, 9, KEY);
        Links.forgeGoodEcho(link, KEY, 12, 0);
        link.deliver(0, 0);
        Links.ticks(link, 8);
        link.alter(1, 1, true);
        link.alter(1, 1, true);
        CHECK.due("BEAT at a closed end", link.deliver(1, 1), 6);
        CHECK.due("no BEATACK", link.waiting(0, 1), 0);
        link.open(12);
        CHECK.due("BEAT with its tag at a waiting end", link.deliver(1, 1), 6);
        CHECK.due("no BEATACK", link.waiting(0, 1), 0);
        Links.lose(link, 1, 0, 8);
        link.deliver(0, 0);
        link.deliver(1, 0);
        CHECK.due("echoed", link.about(0, Links.STATE), Links.ECHOED);
        CHECK.due("BEAT with its tag at an echoed end", link.deliver(1, 1), 6);
        CHECK.due("no BEATACK", link.waiting(0, 1), 0);
    }

    private static void anAbortWhenClosedDoesNothing() {
        StreamLink link = new StreamLink(8, 9, KEY);
        for (int end = 0; end < 2; end++) {
            link.forge(end, 8, 5, 0, 0, 0, 0);
            CHECK.due("ABORT", link.deliver(1 - end, 0), 8);
            CHECK.due("it never was closed", link.about(end, Links.REPORT), 0);
        }
        link.open(12);
        Links.ticks(link, 27);
        CHECK.due("no answer", link.about(0, Links.REPORT), 2);
        link.forge(0, 8, 12, 0, 0, 0, 0);
        CHECK.due("ABORT with the tag that it had", link.deliver(1, 0), 8);
        CHECK.due("the report stays", link.about(0, Links.REPORT), 2);
    }
}
