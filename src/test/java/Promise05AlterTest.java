/** Promise 5: alter. */
public final class Promise05AlterTest {
    private static final Check CHECK = new Check("promise 5");

    public static void main(String[] args) {
        nothingToAlter();
        whatIsNotThereHasNothingToAlter();
        theFirstIsLost();
        aCopyGoesToTheEnd();
        aFullRowTakesNoCopy();
        aCopyIsWhole();
        aCopyOfASackTellsItsGaps();
        aCopyOfAnAbortHasItsTag();
        CHECK.finish();
    }

    private static void nothingToAlter() {
        StreamLink link = new StreamLink(8, 5, 1);
        int[] numbers = {-1, 0, 1, 2, Integer.MIN_VALUE, Integer.MAX_VALUE};
        for (int end : numbers) {
            for (int path : numbers) {
                CHECK.due("lose", link.alter(end, path, false), false);
                CHECK.due("twice", link.alter(end, path, true), false);
            }
        }
    }

    private static void whatIsNotThereHasNothingToAlter() {
        StreamLink link = Links.withPacketsInEveryRow();
        for (int number : Links.NEITHER) {
            for (int there = 0; there < 2; there++) {
                CHECK.due("lose, no end " + number, link.alter(number, there, false), false);
                CHECK.due("twice, no end " + number, link.alter(number, there, true), false);
                CHECK.due("lose, no path " + number, link.alter(there, number, false), false);
                CHECK.due("twice, no path " + number, link.alter(there, number, true), false);
            }
        }
        CHECK.due("none was lost or came twice", Links.packetsUnderWay(link), 4);
    }

    private static void theFirstIsLost() {
        StreamLink link = new StreamLink(8, 5, 1);
        link.forge(1, 0, 0, 5, 0, 0, 0);
        link.forge(1, 8, 7, 0, 0, 0, 0);
        link.forge(1, 2, 7, 1, 2, 3, 4);
        CHECK.due("lose", link.alter(0, 0, false), true);
        CHECK.due("two left", link.waiting(0, 0), 2);
        CHECK.due("second", link.deliver(0, 0), 8);
        CHECK.due("third", link.deliver(0, 0), 2);
        CHECK.due("the lost INIT got no answer", link.waiting(1, 0), 0);
        CHECK.due("nothing left", link.alter(0, 0, false), false);
    }

    private static void aCopyGoesToTheEnd() {
        StreamLink link = new StreamLink(8, 5, 1);
        link.forge(1, 0, 0, 5, 0, 0, 0);
        link.forge(1, 8, 7, 0, 0, 0, 0);
        CHECK.due("twice", link.alter(0, 0, true), true);
        CHECK.due("three", link.waiting(0, 0), 3);
        CHECK.due("first stays", link.deliver(0, 0), 0);
        CHECK.due("second", link.deliver(0, 0), 8);
        CHECK.due("copy", link.deliver(0, 0), 0);
        CHECK.due("both INITs are answered", link.waiting(1, 0), 2);
    }

    private static void aFullRowTakesNoCopy() {
        StreamLink link = new StreamLink(8, 5, 1);
        link.forge(0, 8, 7, 0, 0, 0, 0);
        for (int count = 1; count < 8; count++) {
            CHECK.due("twice with " + count, link.alter(1, 0, true), true);
        }
        CHECK.due("eight", link.waiting(1, 0), 8);
        CHECK.due("twice with 8", link.alter(1, 0, true), false);
        CHECK.due("still eight", link.waiting(1, 0), 8);
        CHECK.due("but one can be lost", link.alter(1, 0, false), true);
        CHECK.due("seven", link.waiting(1, 0), 7);
        CHECK.due("twice with 7", link.alter(1, 0, true), true);
    }

    private static void aCopyIsWhole() {
        StreamLink link = new StreamLink(8, 5, 1);
        Links.ticks(link, 3);
        link.open(12);
        link.alter(0, 0, true);
        link.alter(0, 0, false);
        link.deliver(0, 0);
        link.alter(1, 0, true);
        link.alter(1, 0, false);
        link.deliver(1, 0);
        link.alter(0, 0, true);
        link.alter(0, 0, false);
        link.deliver(0, 0);
        link.alter(1, 0, true);
        link.alter(1, 0, false);
        link.deliver(1, 0);
        CHECK.due("a connection of copies", link.about(0, Links.STATE), Links.UP);
        link.send(0, 2, true, 40, 1);
        link.alter(0, 0, true);
        link.alter(0, 0, false);
        link.deliver(0, 0);
        CHECK.due("a word", link.read(1, 2), 40);
        link.alter(1, 0, true);
        link.alter(1, 0, false);
        link.deliver(1, 0);
        CHECK.due("a SACK", link.about(0, Links.TO_SEND), 0);
        CHECK.due("its window", link.about(0, Links.WINDOW), 7);
        Links.ticks(link, 5);
        Links.lose(link, 1, 1, 8);
        link.alter(0, 1, true);
        link.alter(0, 1, false);
        link.deliver(0, 1);
        link.alter(1, 1, true);
        link.alter(1, 1, false);
        link.deliver(1, 1);
        CHECK.due("BEAT and BEATACK", link.path(0, 1, Links.BEAT_OPEN), 0);
    }

    private static void aCopyOfASackTellsItsGaps() {
        StreamLink link = Links.up(8, 5, 1, 12);
        link.send(0, 0, false, 40, 2);
        link.alter(0, 0, false);
        link.deliver(0, 0);
        Links.toTheEnd(link, 1, 0);
        CHECK.due("SACK", link.deliver(1, 0), 5);
        CHECK.due("word 1 is out", link.word(0, 1), 2);
        CHECK.due("word 2 is held", link.word(0, 2), 4);
    }

    private static void aCopyOfAnAbortHasItsTag() {
        StreamLink link = Links.up(8, 5, 1, 12);
        link.abort(1);
        Links.toTheEnd(link, 1, 0);
        CHECK.due("ABORT", link.deliver(1, 0), 8);
        CHECK.due("closed by it", link.about(0, Links.REPORT), 3);
    }
}
