import java.util.Random;

/** No call throws or makes an answer that cannot be, for any arguments, even after 512 calls. */
public final class AnyCallsTest {
    private static final Check CHECK = new Check("any calls");
    private static final int[] ODD = {Integer.MIN_VALUE, -1, 0, 1, 2, 3, 4, 8, Integer.MAX_VALUE};

    public static void main(String[] args) {
        for (int seed = 0; seed < 300; seed++) {
            anyCalls(new Random(seed), 512);
        }
        for (int seed = 300; seed < 310; seed++) {
            anyCalls(new Random(seed), 30_000);
        }
        manyTagsAndMessages();
        CHECK.finish();
    }

    private static int number(Random random) {
        return random.nextInt(8) == 0 ? ODD[random.nextInt(ODD.length)] : random.nextInt(2);
    }

    private static void anyCalls(Random random, int calls) {
        StreamLink link = new StreamLink(random.nextInt(), random.nextInt(), random.nextInt(3));
        for (int i = 0; i < calls; i++) {
            anyCall(link, random);
            holdsTogether(link);
        }
    }

    private static void anyCall(StreamLink link, Random random) {
        int a = number(random);
        int b = number(random);
        switch (random.nextInt(12)) {
            case 0 -> link.open(random.nextInt());
            case 1, 2 -> link.send(a, b, random.nextBoolean(), random.nextInt(), 1 + random.nextInt(4));
            case 3, 4, 5, 6, 7 -> link.deliver(a, b);
            case 8 -> link.alter(a, b, random.nextBoolean());
            case 9 -> link.tick();
            case 10 -> link.primary(a, b);
            default -> anyRareCall(link, random, a, b);
        }
    }

    private static void anyRareCall(StreamLink link, Random random, int a, int b) {
        int odd = ODD[random.nextInt(ODD.length)];
        switch (random.nextInt(9)) {
            case 0 -> link.abort(a);
            case 1 -> link.forge(a, odd, b, odd, b, a, random.nextInt());
            case 2 -> link.read(a, b);
            case 3 -> link.about(a, odd);
            case 4 -> link.path(a, b, odd);
            case 5 -> link.word(a, odd);
            case 6 -> link.ready(a, odd);
            case 7 -> link.length(a, odd);
            default -> link.waiting(a, odd);
        }
    }

    private static void holdsTogether(StreamLink link) {
        for (int end = 0; end < 2; end++) {
            int out = 0;
            for (int path = 0; path < 2; path++) {
                between("row", link.waiting(end, path), 0, 8);
                boolean up = link.about(end, Links.STATE) == Links.UP;
                between("rate", link.path(end, path, Links.RATE), up ? 1 : 0, 8);
                between("wait", link.path(end, path, Links.WAIT), up ? 3 : 0, 24);
                int outHere = link.path(end, path, Links.OUT_ON);
                if ((outHere > 0) != (link.path(end, path, Links.TIMER) == 1)) {
                    CHECK.due("a timer runs if words are out", outHere, 0);
                }
                out += outHere;
            }
            between("to send", link.about(end, Links.TO_SEND), out, 24);
            between("window", link.about(end, Links.WINDOW), 0, 16);
            between("kept", link.about(end, Links.KEPT), 0, Integer.MAX_VALUE);
        }
    }

    private static void between(String what, int got, int least, int most) {
        if (got < least || got > most) {
            CHECK.due(what + " between " + least + " and " + most, got, least);
        }
    }

    private static void manyTagsAndMessages() {
        StreamLink link = new StreamLink(16, 9, 4);
        for (int tag = 1; tag <= 2000; tag++) {
            link.open(tag);
            link.abort(0);
            Links.loseAll(link);
        }
        StreamLink server = new StreamLink(16, 9, 4);
        for (int tag = 1; tag <= 2000; tag++) {
            Links.forgeGoodEcho(server, 4, tag, 0);
            server.deliver(0, 0);
            server.abort(1);
            Links.loseAll(server);
        }
        StreamLink unread = Links.up(16, 9, 4, 12);
        for (int i = 0; i < 2000; i++) {
            unread.send(0, 0, true, i, 1);
            unread.deliver(0, 0);
            unread.deliver(1, 0);
        }
        CHECK.due("the first of many unread ones", unread.read(1, 0), 0);
        CHECK.due("the second of them", unread.read(1, 0), 1);
        CHECK.due("ticks of it all", unread.tick(), 1);
    }
}
