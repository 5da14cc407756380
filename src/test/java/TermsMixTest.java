/**
 * Terms, MIX: "ints, everything wraps", held against numbers that were worked out elsewhere, not
 * by a second copy of the formula.
 */
public final class TermsMixTest {
    private static final Check CHECK = new Check("terms, mix");
    private static final int[] KEYS =
        {0, 1, -1, 77, 31, Integer.MAX_VALUE, Integer.MIN_VALUE};
    /** MIX(key). */
    private static final int[] MIXED =
        {84694791, 67916692, -101559639, -938840817, 437013046, 2045989545, -2062723321};
    /** MIX(key, 12, 12 xor MIX(key), 5, 7). */
    private static final int[] SEALS =
        {1390265114, -2060900542, -636830710, 825744766, -277935644, -438041848, -1783722000};

    public static void main(String[] args) {
        for (int i = 0; i < KEYS.length; i++) {
            theServersTagIsTheClientsXorTheMixedKey(KEYS[i], MIXED[i]);
            theServersTagIsTheMixedKeyItselfIfThatIsZero(KEYS[i], MIXED[i]);
            theSealIsRight(KEYS[i], MIXED[i], SEALS[i]);
        }
        CHECK.finish();
    }

    private static void theServersTagIsTheClientsXorTheMixedKey(int key, int mixed) {
        int[] tags = {12, 1, -1, Integer.MAX_VALUE, Integer.MIN_VALUE, mixed + 1};
        for (int tag : tags) {
            StreamLink link = Links.up(8, 5, key, tag);
            CHECK.due("tag of end 1, key " + key, link.about(1, Links.OWN), tag ^ mixed);
            CHECK.due("end 0's other tag, key " + key, link.about(0, Links.OTHER), tag ^ mixed);
            CHECK.due("end 1's other tag, key " + key, link.about(1, Links.OTHER), tag);
        }
    }

    private static void theServersTagIsTheMixedKeyItselfIfThatIsZero(int key, int mixed) {
        StreamLink link = Links.up(8, 5, key, mixed);
        CHECK.due("tag of end 1, key " + key, link.about(1, Links.OWN), mixed);
        CHECK.due("end 0's other tag, key " + key, link.about(0, Links.OTHER), mixed);
        CHECK.due("end 0 is up, key " + key, link.about(0, Links.STATE), Links.UP);
    }

    private static void theSealIsRight(int key, int mixed, int seal) {
        int server = 12 ^ mixed;
        int[] wrong = {seal + 1, seal - 1, -seal, 0, ~seal};
        StreamLink link = new StreamLink(8, 5, key);
        Links.ticks(link, 5);
        for (int other : wrong) {
            link.forge(1, 2, server, 12, server, 5, other);
            link.deliver(0, 0);
            CHECK.due("seal " + other + ", key " + key, link.about(1, Links.STATE), Links.CLOSED);
        }
        link.forge(1, 2, server, 12, server, 5, seal);
        link.deliver(0, 0);
        CHECK.due("seal " + seal + ", key " + key, link.about(1, Links.STATE), Links.UP);
    }
}
