/** Promise 4, deliver: the four packets that make a connection, and what the cookie proves. */
public final class Promise04MakingTest {
    private static final Check CHECK = new Check("promise 4, making");
    private static final int KEY = 31;

    public static void main(String[] args) {
        nothingToDeliver();
        whatIsNotThereHasNothingToDeliver();
        fourPacketsMakeAConnection();
        anInitChangesNothingAtEndOne();
        aTagThatEqualsTheMixedKey();
        anInitAckMustBeAwaited();
        theEchoIsJudged();
        aCookieGrowsOld();
        noServerTagIsUpTwice();
        anEchoThatComesTwice();
        anEchoForAnotherConnection();
        answersGoOnTheSamePath();
        packetsAtTheWrongEndDoNothing();
        comingUpBeginsAnew();
        CHECK.finish();
    }

    private static void nothingToDeliver() {
        StreamLink link = new StreamLink(8, 5, KEY);
        int[] numbers = {-1, 0, 1, 2, Integer.MIN_VALUE, Integer.MAX_VALUE};
        for (int end : numbers) {
            for (int path : numbers) {
                CHECK.due("deliver(" + end + ", " + path + ")", link.deliver(end, path), -1);
            }
        }
    }

    private static void whatIsNotThereHasNothingToDeliver() {
        StreamLink link = Links.withPacketsInEveryRow();
        for (int number : Links.NEITHER) {
            CHECK.due("no end, no path " + number, link.deliver(number, number), -1);
            for (int there = 0; there < 2; there++) {
                CHECK.due("no end " + number, link.deliver(number, there), -1);
                CHECK.due("no path " + number, link.deliver(there, number), -1);
            }
        }
        CHECK.due("nothing came", Links.packetsUnderWay(link), 4);
    }

    private static void fourPacketsMakeAConnection() {
        StreamLink link = new StreamLink(8, 5, KEY);
        link.open(12);
        CHECK.due("INIT", link.deliver(0, 0), 0);
        CHECK.due("INITACK", link.deliver(1, 0), 1);
        CHECK.due("end 0 is echoed", link.about(0, Links.STATE), Links.ECHOED);
        CHECK.due("own tag", link.about(0, Links.OWN), 12);
        CHECK.due("other tag", link.about(0, Links.OTHER), Links.serverTag(KEY, 12));
        CHECK.due("end 1 is closed", link.about(1, Links.STATE), Links.CLOSED);
        CHECK.due("ECHO", link.deliver(0, 0), 2);
        CHECK.due("end 1 is up", link.about(1, Links.STATE), Links.UP);
        CHECK.due("own tag", link.about(1, Links.OWN), Links.serverTag(KEY, 12));
        CHECK.due("other tag", link.about(1, Links.OTHER), 12);
        CHECK.due("ECHOACK", link.deliver(1, 0), 3);
        CHECK.due("end 0 is up", link.about(0, Links.STATE), Links.UP);
        CHECK.due("nothing more", link.waiting(0, 0) + link.waiting(1, 0), 0);
    }

    private static void anInitChangesNothingAtEndOne() {
        StreamLink link = new StreamLink(8, 5, KEY);
        link.forge(1, 0, 0, 5, 0, 0, 0);
        link.forge(1, 0, 0, 6, 0, 0, 0);
        link.forge(1, 0, 0, 0, 0, 0, 0);
        Links.deliver(link, 0, 0, 3);
        for (int what = 0; what <= 9; what++) {
            CHECK.due("about(1, " + what + ")", link.about(1, what), 0);
        }
        CHECK.due("two answers, none to tag 0", link.waiting(1, 0), 2);
        Links.connect(link, 9);
        CHECK.due("INITACKs for others do nothing", link.about(0, Links.STATE), Links.WAITING);
        Links.settle(link, 0);
        CHECK.due("its own one does", link.about(0, Links.STATE), Links.UP);
        link.forge(1, 0, 0, 7, 0, 0, 0);
        link.deliver(0, 0);
        CHECK.due("an end that is up answers too", link.waiting(1, 0), 1);
        CHECK.due("and keeps its tag", link.about(1, Links.OTHER), 9);
    }

    private static void aTagThatEqualsTheMixedKey() {
        int tag = Links.mix(KEY);
        StreamLink link = Links.up(8, 5, KEY, tag);
        CHECK.due("end 1's tag is never 0", link.about(1, Links.OWN), tag);
        CHECK.due("end 0 is up", link.about(0, Links.STATE), Links.UP);
        CHECK.due("end 0's other tag", link.about(0, Links.OTHER), tag);
    }

    private static void anInitAckMustBeAwaited() {
        StreamLink link = new StreamLink(8, 5, KEY);
        link.open(12);
        link.alter(0, 0, true);
        Links.deliver(link, 0, 0, 2);
        link.deliver(1, 0);
        CHECK.due("one ECHO", link.waiting(0, 0), 1);
        CHECK.due("INITACK when echoed", link.deliver(1, 0), 1);
        CHECK.due("no ECHO for it", link.waiting(0, 0), 1);
        link.abort(0);
        link.open(13);
        CHECK.due("ECHO and INIT are under way", link.waiting(0, 0), 2);
        CHECK.due("ECHO", link.deliver(0, 0), 2);
        CHECK.due("ECHOACK for the old tag", link.deliver(1, 0), 3);
        CHECK.due("does nothing", link.about(0, Links.STATE), Links.WAITING);
        link.deliver(0, 0);
        link.deliver(1, 0);
        CHECK.due("the new INITACK does", link.about(0, Links.STATE), Links.ECHOED);
        link.deliver(0, 0);
        CHECK.due("end 1 has another connection, so no ECHOACK", link.waiting(1, 0), 0);
        CHECK.due("which stays", link.about(1, Links.OTHER), 12);
    }

    /** Whether end 1 of a new link comes up by an ECHO with these numbers, at tick 5. */
    private static boolean comesUp(int tag, int client, int server, int tick, int seal) {
        StreamLink link = new StreamLink(8, 5, KEY);
        Links.ticks(link, 5);
        link.forge(1, 2, tag, client, server, tick, seal);
        link.deliver(0, 0);
        boolean up = link.about(1, Links.STATE) == Links.UP;
        CHECK.due("an ECHOACK if it is up", link.waiting(1, 0), up ? 1 : 0);
        return up;
    }

    private static void theEchoIsJudged() {
        int s = Links.serverTag(KEY, 12);
        int seal = Links.seal(KEY, 12, 5);
        CHECK.due("a good ECHO", comesUp(s, 12, s, 5, seal), true);
        CHECK.due("a wrong seal", comesUp(s, 12, s, 5, seal + 1), false);
        CHECK.due("the seal of another tick", comesUp(s, 12, s, 4, seal), false);
        CHECK.due("the seal of another client", comesUp(s, 13, s, 5, seal), false);
        CHECK.due("a packet with another tag", comesUp(s + 1, 12, s, 5, seal), false);
        int other = s + 1;
        CHECK.due("a server's tag that no INIT gets",
            comesUp(other, 12, other, 5, Links.mix(KEY, 12, other, 5, 7)), false);
        int zero = Links.mix(KEY);
        CHECK.due("client's tag 0", comesUp(zero, 0, zero, 5, Links.mix(KEY, 0, zero, 5, 7)), false);
        int same = Links.mix(KEY);
        CHECK.due("the mixed key as the client's tag",
            comesUp(same, same, same, 5, Links.seal(KEY, same, 5)), true);
        CHECK.due("a tick after now", comesUp(s, 12, s, 6, Links.seal(KEY, 12, 6)), false);
        CHECK.due("20 ago", comesUp(s, 12, s, -15, Links.seal(KEY, 12, -15)), true);
        CHECK.due("21 ago", comesUp(s, 12, s, -16, Links.seal(KEY, 12, -16)), false);
        int[] far = {Integer.MIN_VALUE, Integer.MIN_VALUE + 5, Integer.MIN_VALUE + 24,
            Integer.MAX_VALUE, Integer.MAX_VALUE - 5};
        for (int tick : far) {
            CHECK.due("tick " + tick, comesUp(s, 12, s, tick, Links.seal(KEY, 12, tick)), false);
        }
    }

    private static void aCookieGrowsOld() {
        for (int age = 19; age <= 22; age++) {
            StreamLink link = new StreamLink(8, 9, KEY);
            link.open(12);
            link.deliver(0, 0);
            link.deliver(1, 0);
            Links.ticks(link, age);
            link.deliver(0, 0);
            CHECK.due("state after " + age, link.about(1, Links.STATE), age <= 20 ? 3 : 0);
        }
        StreamLink link = new StreamLink(8, 9, KEY);
        link.open(12);
        Links.ticks(link, 15);
        link.deliver(0, 0);
        link.deliver(1, 0);
        Links.ticks(link, 20);
        link.deliver(0, 0);
        Links.settle(link, 0);
        CHECK.due("its tick is that of the answer", link.about(1, Links.STATE), Links.UP);
    }

    private static void noServerTagIsUpTwice() {
        StreamLink link = Links.up(8, 5, KEY, 12);
        link.abort(1);
        CHECK.due("closed", link.about(1, Links.STATE), Links.CLOSED);
        Links.forgeGoodEcho(link, KEY, 12, 0);
        Links.loseAll(link);
        Links.forgeGoodEcho(link, KEY, 12, 0);
        CHECK.due("ECHO", link.deliver(0, 0), 2);
        CHECK.due("closed still", link.about(1, Links.STATE), Links.CLOSED);
        CHECK.due("no ECHOACK", link.waiting(1, 0), 0);
        Links.forgeGoodEcho(link, KEY, 13, 0);
        link.deliver(0, 0);
        CHECK.due("another tag brings it up", link.about(1, Links.STATE), Links.UP);
        link.abort(1);
        Links.forgeGoodEcho(link, KEY, 12, 0);
        link.deliver(0, 0);
        CHECK.due("the first one not, still", link.about(1, Links.STATE), Links.CLOSED);
    }

    private static void anEchoThatComesTwice() {
        StreamLink link = new StreamLink(8, 5, KEY);
        link.open(12);
        link.deliver(0, 0);
        link.deliver(1, 0);
        link.alter(0, 0, true);
        link.deliver(0, 0);
        link.send(1, 0, false, 9, 1);
        link.deliver(0, 0);
        CHECK.due("the second does not bring it up anew", link.about(1, Links.TO_SEND), 1);
        CHECK.due("ECHOACK", link.deliver(1, 0), 3);
        link.send(0, 0, false, 9, 1);
        CHECK.due("DATA", link.deliver(1, 0), 4);
        CHECK.due("ECHOACK again", link.deliver(1, 0), 3);
        CHECK.due("end 0 keeps what it has", link.about(0, Links.TO_SEND), 1);
        CHECK.due("and what it got", link.about(0, Links.LATEST), 1);
    }

    private static void anEchoForAnotherConnection() {
        StreamLink link = Links.up(8, 5, KEY, 12);
        Links.forgeGoodEcho(link, KEY, 13, 0);
        CHECK.due("ECHO", link.deliver(0, 0), 2);
        CHECK.due("no ECHOACK", link.waiting(1, 0), 0);
        CHECK.due("end 1 keeps its own tag", link.about(1, Links.OWN), Links.serverTag(KEY, 12));
        link.abort(1);
        Links.loseAll(link);
        Links.forgeGoodEcho(link, KEY, 13, 0);
        link.deliver(0, 0);
        CHECK.due("it had not been up with that", link.about(1, Links.OTHER), 13);
    }

    private static void answersGoOnTheSamePath() {
        StreamLink link = new StreamLink(8, 9, KEY);
        link.open(12);
        Links.ticks(link, 6);
        Links.lose(link, 0, 0, 8);
        CHECK.due("INIT on path 1", link.deliver(0, 1), 0);
        CHECK.due("INITACK on path 1", link.deliver(1, 1), 1);
        CHECK.due("ECHO on path 1", link.deliver(0, 1), 2);
        CHECK.due("ECHOACK on path 1", link.deliver(1, 1), 3);
        CHECK.due("up", link.about(0, Links.STATE), Links.UP);
        CHECK.due("nothing on path 0", link.waiting(0, 0) + link.waiting(1, 0), 0);
    }

    private static void packetsAtTheWrongEndDoNothing() {
        StreamLink link = new StreamLink(8, 5, KEY);
        link.forge(0, 0, 0, 5, 0, 0, 0);
        int s = Links.serverTag(KEY, 12);
        link.forge(0, 2, s, 12, s, 0, Links.seal(KEY, 12, 0));
        // A tag that end 0 will have: not its own one yet, so it may be forged.
        link.forge(0, 2, 12, 12, 12, 0, Links.mix(KEY, 12, 12, 0, 7));
        CHECK.due("INIT at end 0", link.deliver(1, 0), 0);
        CHECK.due("ECHO at end 0", link.deliver(1, 0), 2);
        CHECK.due("no answers", link.waiting(0, 0), 0);
        CHECK.due("state", link.about(0, Links.STATE), Links.CLOSED);
        link.open(12);
        link.deliver(0, 0);
        link.alter(1, 0, true);
        link.alter(1, 0, false);
        link.deliver(1, 0);
        link.deliver(0, 0);
        CHECK.due("ECHO with end 0's own tag", link.deliver(1, 0), 2);
        CHECK.due("does nothing", link.about(0, Links.STATE), Links.ECHOED);
        link.deliver(1, 0);
        CHECK.due("up in the end", link.about(0, Links.STATE), Links.UP);
    }

    private static void comingUpBeginsAnew() {
        StreamLink link = Links.up(8, 9, KEY, 12);
        link.primary(0, 1);
        link.primary(1, 1);
        link.send(0, 0, false, 40, 3);
        Links.settle(link, 1);
        link.send(0, 0, false, 50, 2);
        link.send(1, 0, false, 60, 2);
        Links.ticks(link, 8);
        link.abort(0);
        link.abort(1);
        Links.loseAll(link);
        Links.connect(link, 13);
        for (int end = 0; end < 2; end++) {
            CHECK.due("to send", link.about(end, Links.TO_SEND), 0);
            CHECK.due("latest", link.about(end, Links.LATEST), 0);
            CHECK.due("all errors", link.about(end, Links.ALL_ERRORS), 0);
            CHECK.due("window", link.about(end, Links.WINDOW), 8);
            CHECK.due("path to use", link.about(end, Links.TO_USE), 0);
            for (int path = 0; path < 2; path++) {
                int[] views = {2, 3, 0, 1, 0, 0, 0};
                for (int what = 0; what < views.length; what++) {
                    CHECK.due("path(" + end + ", " + path + ", " + what + ")",
                        link.path(end, path, what), views[what]);
                }
            }
        }
        CHECK.due("the ready message stays", link.ready(1, 0), 1);
        CHECK.due("its words stay kept", link.about(1, Links.KEPT), 3);
        link.send(0, 0, false, 70, 1);
        CHECK.due("numbers begin at 1", link.word(0, 1), 2);
        link.deliver(0, 0);
        CHECK.due("orders at 0", link.ready(1, 0), 2);
        CHECK.due("the old one is first", link.read(1, 0), 40);
        CHECK.due("then the new one", link.read(1, 0), 70);
    }
}
