/** Promises 14 to 16: path, waiting and word. */
public final class Promise14To16StateTest {
    private static final Check CHECK = new Check("promises 14 to 16");
    private static final int[] WRONG = {-1, 2, Integer.MIN_VALUE, Integer.MAX_VALUE};

    public static void main(String[] args) {
        pathThatIsNotThere();
        pathOfAnEndThatIsNotUp();
        pathTellsEachNumber();
        waitingThatIsNotThere();
        waitingCountsEveryRow();
        rowsHoldEight();
        wordThatIsNotThere();
        wordGoesThroughItsStates();
        numbersBeginAnew();
        manyNumbers();
        CHECK.finish();
    }

    private static void pathThatIsNotThere() {
        StreamLink link = Links.up(8, 5, 1, 12);
        for (int wrong : WRONG) {
            for (int what = 0; what <= 6; what++) {
                CHECK.due("end " + wrong, link.path(wrong, 0, what), StreamLink.NONE);
                CHECK.due("path " + wrong, link.path(0, wrong, what), StreamLink.NONE);
            }
        }
        int[] whats = {-1, 7, 8, Integer.MIN_VALUE, Integer.MAX_VALUE};
        for (int what : whats) {
            CHECK.due("what " + what, link.path(0, 0, what), StreamLink.NONE);
        }
        link.abort(0);
        CHECK.due("what 7 when closed", link.path(0, 0, 7), StreamLink.NONE);
        CHECK.due("what -1 when closed", link.path(0, 0, -1), StreamLink.NONE);
        CHECK.due("path 2 when closed", link.path(0, 2, 0), StreamLink.NONE);
    }

    private static void pathOfAnEndThatIsNotUp() {
        StreamLink link = new StreamLink(8, 5, 1);
        allPathsAreZero(link, "closed");
        link.open(12);
        allPathsAreZero(link, "waiting");
        link.deliver(0, 0);
        link.deliver(1, 0);
        allPathsAreZero(link, "echoed");
        link.deliver(0, 0);
        link.deliver(1, 0);
        link.send(0, 0, false, 1, 1);
        Links.ticks(link, 8);
        link.abort(0);
        allPathsAreZero(link, "closed again");
    }

    private static void allPathsAreZero(StreamLink link, String when) {
        for (int path = 0; path < 2; path++) {
            for (int what = 0; what <= 6; what++) {
                CHECK.due(when + ": path(0, " + path + ", " + what + ")",
                    link.path(0, path, what), 0);
            }
        }
    }

    private static void due(StreamLink link, String when, int path, int... answers) {
        for (int what = 0; what < answers.length; what++) {
            CHECK.due(when + ": path(0, " + path + ", " + what + ")",
                link.path(0, path, what), answers[what]);
        }
    }

    private static void pathTellsEachNumber() {
        StreamLink link = Links.up(8, 9, 1, 12);
        due(link, "at first", 0, 2, 3, 0, 1, 0, 0, 0);
        due(link, "at first", 1, 2, 3, 0, 1, 0, 0, 0);
        link.send(0, 0, false, 1, 2);
        due(link, "with words out", 0, 2, 3, 0, 1, 2, 1, 0);
        Links.ticks(link, 3);
        due(link, "after the timer", 0, 1, 6, 1, 1, 0, 0, 0);
        due(link, "after the timer", 1, 2, 3, 0, 1, 2, 1, 0);
        Links.settle(link, 1);
        due(link, "after the SACKs", 1, 4, 3, 0, 1, 0, 0, 0);
        Links.ticks(link, 5);
        due(link, "with a beat", 0, 1, 6, 1, 1, 0, 0, 1);
        due(link, "with a beat", 1, 4, 3, 0, 1, 0, 0, 1);
        Links.settle(link, 1);
        due(link, "with the beat answered", 1, 4, 3, 0, 1, 0, 0, 0);
        for (int i = 0; i < 2; i++) {
            Links.ticks(link, 8);
            Links.settle(link, 1);
        }
        due(link, "with three errors", 0, 1, 6, 3, 0, 0, 0, 1);
    }

    private static void waitingThatIsNotThere() {
        StreamLink link = Links.up(8, 5, 1, 12);
        for (int wrong : WRONG) {
            CHECK.due("end " + wrong, link.waiting(wrong, 0), StreamLink.NONE);
            CHECK.due("path " + wrong, link.waiting(0, wrong), StreamLink.NONE);
        }
    }

    private static void waitingCountsEveryRow() {
        StreamLink link = Links.up(8, 5, 1, 12);
        link.send(0, 0, false, 1, 1);
        link.primary(0, 1);
        link.send(0, 0, false, 1, 2);
        link.primary(1, 1);
        link.send(1, 0, false, 1, 1);
        CHECK.due("from 0 on 0", link.waiting(0, 0), 1);
        CHECK.due("from 0 on 1", link.waiting(0, 1), 2);
        CHECK.due("from 1 on 0", link.waiting(1, 0), 0);
        CHECK.due("from 1 on 1", link.waiting(1, 1), 1);
        link.deliver(0, 1);
        CHECK.due("one has arrived", link.waiting(0, 1), 1);
        CHECK.due("and is answered", link.waiting(1, 1), 2);
        link.abort(0);
        CHECK.due("they stay when it is closed", link.waiting(0, 0), 1);
        CHECK.due("with the ABORT", link.waiting(0, 1), 2);
    }

    private static void rowsHoldEight() {
        StreamLink link = Links.up(16, 9, 1, 12);
        link.send(0, 0, false, 1, 1);
        for (int i = 0; i < 7; i++) {
            link.alter(0, 0, true);
        }
        CHECK.due("eight", link.waiting(0, 0), 8);
        Links.ticks(link, 3);
        link.send(0, 0, false, 2, 1);
        CHECK.due("word 2 is out on path 0", link.path(0, 0, Links.OUT_ON), 1);
        CHECK.due("eight still", link.waiting(0, 0), 8);
        Links.deliver(link, 0, 0, 8);
        CHECK.due("the ninth was lost, not the first", link.about(1, Links.LATEST), 1);
        CHECK.due("eight SACKs", link.waiting(1, 0), 8);
        link.deliver(0, 1);
        CHECK.due("path 1 is another row", link.waiting(1, 1), 1);
    }

    private static void wordThatIsNotThere() {
        StreamLink link = Links.up(8, 5, 1, 12);
        link.send(0, 0, false, 1, 1);
        int[] numbers = {0, -1, 2, 25, -23, Integer.MIN_VALUE, Integer.MAX_VALUE};
        for (int number : numbers) {
            CHECK.due("word " + number, link.word(0, number), 0);
        }
        CHECK.due("the other end", link.word(1, 1), 0);
        link.send(1, 0, false, 1, 1);
        for (int end : WRONG) {
            CHECK.due("end " + end, link.word(end, 1), 0);
        }
        CHECK.due("word 1", link.word(0, 1), 2);
        CHECK.due("word 1 at end 1", link.word(1, 1), 2);
    }

    private static void wordGoesThroughItsStates() {
        StreamLink link = Links.up(16, 9, 1, 12);
        link.send(0, 0, false, 1, 3);
        CHECK.due("out", link.word(0, 2), 2);
        CHECK.due("new", link.word(0, 3), 1);
        link.alter(0, 0, false);
        link.deliver(0, 0);
        link.deliver(1, 0);
        CHECK.due("held", link.word(0, 2), 4);
        CHECK.due("out", link.word(0, 3), 2);
        Links.ticks(link, 3);
        Links.settle(link, 1);
        CHECK.due("gone", link.word(0, 2), 0);
        CHECK.due("gone", link.word(0, 1), 0);
        wordIsMarkedWhenItsPathIsFull();
    }

    private static void wordIsMarkedWhenItsPathIsFull() {
        StreamLink link = Links.up(16, 9, 1, 12);
        link.send(0, 0, false, 1, 1);
        Links.settle(link, 0);
        link.send(0, 0, false, 2, 3);
        CHECK.due("three are out", link.path(0, 0, Links.OUT_ON), 3);
        Links.ticks(link, 3);
        CHECK.due("word 2", link.word(0, 2), 2);
        CHECK.due("word 3", link.word(0, 3), 2);
        CHECK.due("word 4 is marked", link.word(0, 4), 3);
        Links.deliver(link, 0, 1, 1);
        Links.deliver(link, 1, 1, 1);
        CHECK.due("word 4 is out", link.word(0, 4), 2);
    }

    private static void numbersBeginAnew() {
        StreamLink link = Links.up(8, 5, 1, 12);
        link.send(0, 0, false, 1, 2);
        Links.settle(link, 0);
        link.send(0, 0, false, 1, 2);
        CHECK.due("word 4", link.word(0, 4), 2);
        link.abort(0);
        CHECK.due("word 4 when closed", link.word(0, 4), 0);
        link.abort(1);
        Links.loseAll(link);
        Links.connect(link, 13);
        CHECK.due("word 4 when up again", link.word(0, 4), 0);
        CHECK.due("word 1 when up again", link.word(0, 1), 0);
        link.send(0, 0, false, 1, 1);
        CHECK.due("word 1", link.word(0, 1), 2);
    }

    private static void manyNumbers() {
        StreamLink link = Links.up(16, 5, 1, 12);
        for (int i = 1; i <= 60; i++) {
            link.send(0, 0, false, i, 1);
            CHECK.due("word " + i, link.word(0, i), 2);
            link.deliver(0, 0);
            CHECK.due("read " + i, link.read(1, 0), i);
            link.deliver(1, 0);
            CHECK.due("word " + i, link.word(0, i), 0);
            CHECK.due("latest", link.about(1, Links.LATEST), i);
        }
    }
}
