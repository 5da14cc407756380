import java.util.Random;

/**
 * No call throws or fails to end, for any arguments in any state, and what can be seen holds
 * together. After the 512th call of an object its answers are free: they are not looked at, but
 * LANGUAGE.md forbids it to throw even then.
 */
public final class AnyCallsTest {
    private static final Check CHECK = new Check("any calls");
    private static final int[] ODD = {Integer.MIN_VALUE, -1, 0, 1, 2, 3, 4, 8, Integer.MAX_VALUE};
    /** With the calls of holdsTogether these are at most 512. */
    private static final int CALLS = 480;

    public static void main(String[] args) {
        for (int seed = 0; seed < 3000; seed++) {
            Random random = new Random(seed);
            holdsTogether(anyCalls(random, random.nextInt(CALLS)));
        }
        for (int seed = 3000; seed < 3010; seed++) {
            anyCalls(new Random(seed), 30_000);
        }
        manyTagsAndMessages();
        CHECK.finish();
    }

    private static int number(Random random) {
        return random.nextInt(8) == 0 ? ODD[random.nextInt(ODD.length)] : random.nextInt(2);
    }

    private static StreamLink anyCalls(Random random, int calls) {
        StreamLink link = new StreamLink(random.nextInt(), random.nextInt(), random.nextInt(3));
        for (int i = 0; i < calls; i++) {
            anyCall(link, random);
        }
        return link;
    }

    private static void anyCall(StreamLink link, Random random) {
        int a = number(random);
        int b = number(random);
        switch (random.nextInt(12)) {
            case 0 -> link.open(random.nextInt());
            case 1, 2 -> link.send(a, b, random.nextBoolean(), random.nextInt(), 1 + random.nextInt(4));
            case 3, 4, 5, 6, 7 -> link.deliver(a, b);
            case 8 -> link.alter(a, b, random.nextBoolean());
            case 9 -> link.tick();
            case 10 -> link.primary(a, b);
            default -> anyRareCall(link, random, a, b);
        }
    }

    private static void anyRareCall(StreamLink link, Random random, int a, int b) {
        int odd = ODD[random.nextInt(ODD.length)];
        switch (random.nextInt(9)) {
            case 0 -> link.abort(a);
            case 1 -> link.forge(a, odd, b, odd, b, a, random.nextInt());
            case 2 -> link.read(a, b);
            case 3 -> link.about(a, odd);
            case 4 -> link.path(a, b, odd);
            case 5 -> link.word(a, odd);
            case 6 -> link.ready(a, odd);
            case 7 -> link.length(a, odd);
            default -> link.waiting(a, odd);
        }
    }

    private static void holdsTogether(StreamLink link) {
        for (int end = 0; end < 2; end++) {
            boolean up = link.about(end, Links.STATE) == Links.UP;
            int out = 0;
            for (int path = 0; path < 2; path++) {
                between("row", link.waiting(end, path), 0, 8);
                between("rate", link.path(end, path, Links.RATE), up ? 1 : 0, 8);
                between("wait", link.path(end, path, Links.WAIT), up ? 3 : 0, 24);
                int outHere = link.path(end, path, Links.OUT_ON);
                CHECK.due("a timer runs if words are out", link.path(end, path, Links.TIMER),
                    outHere > 0 ? 1 : 0);
                out += outHere;
            }
            between("to send", link.about(end, Links.TO_SEND), out, 24);
            between("window", link.about(end, Links.WINDOW), 0, 16);
            between("kept", link.about(end, Links.KEPT), 0, Integer.MAX_VALUE);
        }
    }

    private static void between(String what, int got, int least, int most) {
        CHECK.due(what + " " + got + " is between " + least + " and " + most,
            got >= least && got <= most, true);
    }

    /** More tags and ready messages than 512 calls can bring. */
    private static void manyTagsAndMessages() {
        StreamLink link = new StreamLink(16, 9, 4);
        for (int tag = 1; tag <= 2000; tag++) {
            link.open(tag);
            link.abort(0);
            Links.loseAll(link);
        }
        StreamLink server = new StreamLink(16, 9, 4);
        for (int tag = 1; tag <= 2000; tag++) {
            Links.forgeGoodEcho(server, 4, tag, 0);
            server.deliver(0, 0);
            server.abort(1);
            Links.loseAll(server);
        }
        StreamLink unread = Links.up(16, 9, 4, 12);
        for (int i = 0; i < 2000; i++) {
            unread.send(0, 0, true, i, 1);
            unread.deliver(0, 0);
            unread.deliver(1, 0);
        }
        for (int i = 0; i < 2000; i++) {
            unread.read(1, 0);
        }
    }
}
