/** Promise 6: forge. */
public final class Promise06ForgeTest {
    private static final Check CHECK = new Check("promise 6");
    private static final int KEY = 3;

    public static void main(String[] args) {
        onlyThreeKinds();
        packetsGoToTheNamedEnd();
        theOwnTagCannotBeGuessed();
        aFullRowIsRefused();
        aForgedInitIsAnswered();
        aForgedInitMayTellTagZero();
        aForgedEchoWithAGoodCookie();
        CHECK.finish();
    }

    private static void onlyThreeKinds() {
        StreamLink link = new StreamLink(8, 5, KEY);
        for (int kind = -2; kind <= 10; kind++) {
            boolean known = kind == 0 || kind == 2 || kind == 8;
            CHECK.due("kind " + kind, link.forge(0, kind, 9, 1, 2, 3, 4), known);
        }
        CHECK.due("kind MIN", link.forge(0, Integer.MIN_VALUE, 9, 1, 2, 3, 4), false);
        CHECK.due("kind MAX", link.forge(0, Integer.MAX_VALUE, 9, 1, 2, 3, 4), false);
        int[] noEnds = {-1, 2, Integer.MIN_VALUE, Integer.MAX_VALUE};
        for (int end : noEnds) {
            CHECK.due("end " + end, link.forge(end, 0, 9, 1, 2, 3, 4), false);
        }
        CHECK.due("three are there", link.waiting(1, 0), 3);
        CHECK.due("none to end 1", link.waiting(0, 0), 0);
    }

    private static void packetsGoToTheNamedEnd() {
        StreamLink link = new StreamLink(8, 5, KEY);
        CHECK.due("ABORT to end 1", link.forge(1, 8, 9, 0, 0, 0, 0), true);
        CHECK.due("in the row from end 0", link.waiting(0, 0), 1);
        CHECK.due("on path 0 alone", link.waiting(0, 1), 0);
        CHECK.due("not from end 1", link.waiting(1, 0), 0);
        CHECK.due("ABORT", link.deliver(0, 0), 8);
        link.open(12);
        link.forge(1, 0, 0, 5, 0, 0, 0);
        link.forge(1, 2, 9, 1, 2, 3, 4);
        CHECK.due("INIT of end 0", link.deliver(0, 0), 0);
        CHECK.due("forged INIT", link.deliver(0, 0), 0);
        CHECK.due("forged ECHO", link.deliver(0, 0), 2);
    }

    private static void theOwnTagCannotBeGuessed() {
        StreamLink link = new StreamLink(8, 5, KEY);
        for (int end = 0; end < 2; end++) {
            CHECK.due("ABORT 0 at a closed end", link.forge(end, 8, 0, 0, 0, 0, 0), false);
            CHECK.due("ECHO 0 at a closed end", link.forge(end, 2, 0, 1, 2, 3, 4), false);
            CHECK.due("INIT 0 at a closed end", link.forge(end, 0, 0, 1, 2, 3, 4), true);
        }
        Links.loseAll(link);
        Links.connect(link, 12);
        int[] own = {12, Links.serverTag(KEY, 12)};
        for (int end = 0; end < 2; end++) {
            CHECK.due("ABORT with the own tag", link.forge(end, 8, own[end], 0, 0, 0, 0), false);
            CHECK.due("ECHO with the own tag", link.forge(end, 2, own[end], 1, 2, 3, 4), false);
            CHECK.due("INIT with the own tag", link.forge(end, 0, own[end], 1, 2, 3, 4), true);
            CHECK.due("ABORT with tag 0", link.forge(end, 8, 0, 0, 0, 0, 0), true);
            CHECK.due("ECHO with the other's tag", link.forge(end, 2, own[1 - end], 1, 2, 3, 4), true);
        }
        CHECK.due("three to each", link.waiting(0, 0) + link.waiting(1, 0), 6);
        Links.deliver(link, 0, 0, 3);
        Links.deliver(link, 1, 0, 4);
        CHECK.due("up", link.about(0, Links.STATE) + link.about(1, Links.STATE), 6);
        StreamLink waiting = new StreamLink(8, 5, KEY);
        waiting.open(12);
        CHECK.due("ABORT with it when waiting", waiting.forge(0, 8, 12, 0, 0, 0, 0), false);
        CHECK.due("ECHO with it when waiting", waiting.forge(0, 2, 12, 1, 2, 3, 4), false);
        CHECK.due("tag 0 when waiting", waiting.forge(0, 8, 0, 0, 0, 0, 0), true);
        waiting.alter(1, 0, false);
        waiting.deliver(0, 0);
        waiting.deliver(1, 0);
        CHECK.due("echoed", waiting.about(0, Links.STATE), Links.ECHOED);
        CHECK.due("ABORT with it when echoed", waiting.forge(0, 8, 12, 0, 0, 0, 0), false);
        CHECK.due("ECHO with it when echoed", waiting.forge(0, 2, 12, 1, 2, 3, 4), false);
        waiting.abort(0);
        CHECK.due("it is nobody's when closed", waiting.forge(0, 8, 12, 0, 0, 0, 0), true);
        CHECK.due("but 0 is its own then", waiting.forge(0, 8, 0, 0, 0, 0, 0), false);
    }

    private static void aFullRowIsRefused() {
        StreamLink link = new StreamLink(8, 5, KEY);
        int[] kinds = {0, 2, 8};
        for (int i = 0; i < 8; i++) {
            CHECK.due("forge " + i, link.forge(1, kinds[i % 3], 9, 1, 2, 3, 4), true);
        }
        for (int kind : kinds) {
            CHECK.due("the ninth", link.forge(1, kind, 9, 1, 2, 3, 4), false);
        }
        CHECK.due("eight", link.waiting(0, 0), 8);
        CHECK.due("the other row is free", link.forge(0, 8, 9, 1, 2, 3, 4), true);
    }

    private static void aForgedInitIsAnswered() {
        StreamLink link = new StreamLink(8, 5, KEY);
        // Its tag is a, not the packet's one: end 0 takes the answer when it opens with 5.
        link.forge(1, 0, 6, 5, 7, 8, 9);
        link.deliver(0, 0);
        link.open(5);
        link.alter(0, 0, false);
        CHECK.due("INITACK", link.deliver(1, 0), 1);
        CHECK.due("echoed", link.about(0, Links.STATE), Links.ECHOED);
        Links.settle(link, 0);
        CHECK.due("up", link.about(0, Links.STATE), Links.UP);
    }

    private static void aForgedInitMayTellTagZero() {
        StreamLink link = new StreamLink(8, 5, KEY);
        CHECK.due("INIT with tag 0", link.forge(1, 0, 9, 0, 0, 0, 0), true);
        CHECK.due("it is there", link.waiting(0, 0), 1);
        CHECK.due("and arrives", link.deliver(0, 0), 0);
        CHECK.due("but is not answered", link.waiting(1, 0), 0);
    }

    private static void aForgedEchoWithAGoodCookie() {
        StreamLink link = new StreamLink(8, 5, KEY);
        CHECK.due("ECHO", Links.forgeGoodEcho(link, KEY, 5, 0), true);
        CHECK.due("arrives", link.deliver(0, 0), 2);
        CHECK.due("end 1 is up", link.about(1, Links.STATE), Links.UP);
        CHECK.due("with the client's tag", link.about(1, Links.OTHER), 5);
        CHECK.due("ECHOACK", link.deliver(1, 0), 3);
        CHECK.due("end 0 is closed still", link.about(0, Links.STATE), Links.CLOSED);
        CHECK.due("now the tag is its own", Links.forgeGoodEcho(link, KEY, 5, 0), false);
    }
}
