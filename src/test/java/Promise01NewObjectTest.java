/** Promise 1: a new object, and the bounds of ROOM and LIMIT. */
public final class Promise01NewObjectTest {
    private static final Check CHECK = new Check("promise 1");

    public static void main(String[] args) {
        everythingIsClosedAndEmpty();
        roomIsKeptWithinItsBounds();
        limitIsKeptWithinItsBounds();
        keyDecidesTheTags();
        CHECK.finish();
    }

    private static void everythingIsClosedAndEmpty() {
        StreamLink link = new StreamLink(8, 5, 77);
        for (int end = 0; end < 2; end++) {
            for (int what = 0; what <= 9; what++) {
                CHECK.due("about(" + end + ", " + what + ")", link.about(end, what), 0);
            }
            for (int path = 0; path < 2; path++) {
                CHECK.due("waiting", link.waiting(end, path), 0);
                CHECK.due("deliver", link.deliver(end, path), StreamLink.NONE);
                for (int what = 0; what <= 6; what++) {
                    CHECK.due("path", link.path(end, path, what), 0);
                }
            }
            for (int stream = 0; stream < 3; stream++) {
                CHECK.due("ready", link.ready(end, stream), 0);
                CHECK.due("length", link.length(end, stream), 0);
                CHECK.due("read", link.read(end, stream), 0);
            }
        }
        CHECK.due("first tick", link.tick(), 1);
        CHECK.due("NONE", StreamLink.NONE, -1);
    }

    private static void roomIsKeptWithinItsBounds() {
        int[] given = {Integer.MIN_VALUE, -1, 0, 1, 2, 3, 9, 15, 16, 17, Integer.MAX_VALUE};
        int[] kept = {2, 2, 2, 2, 2, 3, 9, 15, 16, 16, 16};
        for (int i = 0; i < given.length; i++) {
            StreamLink link = Links.up(given[i], 5, 1, 6);
            CHECK.due("window with room " + given[i], link.about(0, Links.WINDOW), kept[i]);
            CHECK.due("window with room " + given[i], link.about(1, Links.WINDOW), kept[i]);
        }
    }

    private static void limitIsKeptWithinItsBounds() {
        int[] given = {Integer.MIN_VALUE, -1, 0, 1, 2, 3, 8, 9, 10, Integer.MAX_VALUE};
        int[] kept = {2, 2, 2, 2, 2, 3, 8, 9, 9, 9};
        for (int i = 0; i < given.length; i++) {
            StreamLink link = new StreamLink(8, given[i], 1);
            link.open(6);
            Links.ticks(link, 3 * kept[i] - 1);
            CHECK.due("still waiting, limit " + given[i], link.about(0, Links.STATE), Links.WAITING);
            link.tick();
            CHECK.due("closed, limit " + given[i], link.about(0, Links.STATE), Links.CLOSED);
        }
    }

    private static void keyDecidesTheTags() {
        int[] keys = {0, 1, -1, 77, Integer.MAX_VALUE, Integer.MIN_VALUE};
        for (int key : keys) {
            StreamLink link = Links.up(8, 5, key, 6);
            CHECK.due("own tag with key " + key, link.about(1, Links.OWN), Links.serverTag(key, 6));
        }
    }
}
