/** Promise 12: primary. */
public final class Promise12PrimaryTest {
    private static final Check CHECK = new Check("promise 12");

    public static void main(String[] args) {
        wrongInputsAreRefused();
        onlyAnEndThatIsUpHasOne();
        newWordsFollowIt();
        theEndsAreApart();
        anInactivePrimaryIsNotUsed();
        CHECK.finish();
    }

    private static void wrongInputsAreRefused() {
        StreamLink link = Links.up(8, 5, 1, 12);
        int[] numbers = {-1, 2, Integer.MIN_VALUE, Integer.MAX_VALUE};
        for (int number : numbers) {
            CHECK.due("end " + number, link.primary(number, 1), false);
            CHECK.due("path " + number, link.primary(0, number), false);
        }
        CHECK.due("path to use", link.about(0, Links.TO_USE), 0);
    }

    private static void onlyAnEndThatIsUpHasOne() {
        StreamLink link = new StreamLink(8, 5, 1);
        CHECK.due("when closed", link.primary(0, 1), false);
        link.open(12);
        CHECK.due("when waiting", link.primary(0, 1), false);
        link.deliver(0, 0);
        link.deliver(1, 0);
        CHECK.due("when echoed", link.primary(0, 1), false);
        link.deliver(0, 0);
        link.deliver(1, 0);
        CHECK.due("path 0 at first", link.about(0, Links.TO_USE), 0);
        CHECK.due("when up", link.primary(0, 1), true);
        CHECK.due("path 1 then", link.about(0, Links.TO_USE), 1);
        CHECK.due("the same again", link.primary(0, 1), true);
        link.abort(0);
        CHECK.due("when closed again", link.primary(0, 0), false);
        CHECK.due("no path to use", link.about(0, Links.TO_USE), 0);
        link.abort(1);
        Links.loseAll(link);
        Links.connect(link, 13);
        CHECK.due("path 0 when up again", link.about(0, Links.TO_USE), 0);
    }

    private static void newWordsFollowIt() {
        StreamLink link = Links.up(8, 5, 1, 12);
        link.send(0, 0, false, 1, 1);
        link.primary(0, 1);
        link.send(0, 0, false, 2, 1);
        link.primary(0, 0);
        link.send(0, 0, false, 3, 1);
        CHECK.due("on path 0", link.path(0, 0, Links.OUT_ON), 2);
        CHECK.due("on path 1", link.path(0, 1, Links.OUT_ON), 1);
    }

    private static void theEndsAreApart() {
        StreamLink link = Links.up(8, 5, 1, 12);
        link.primary(1, 1);
        CHECK.due("end 0", link.about(0, Links.TO_USE), 0);
        CHECK.due("end 1", link.about(1, Links.TO_USE), 1);
    }

    private static void anInactivePrimaryIsNotUsed() {
        StreamLink link = Links.up(8, 9, 1, 12);
        for (int i = 0; i < 4; i++) {
            Links.ticks(link, 8);
            Links.settle(link, 1);
        }
        CHECK.due("path 0 is not active", link.path(0, 0, Links.ACTIVE), 0);
        CHECK.due("path 1 is used", link.about(0, Links.TO_USE), 1);
        CHECK.due("primary 1", link.primary(0, 1), true);
        CHECK.due("path 1 is used", link.about(0, Links.TO_USE), 1);
        CHECK.due("primary 0", link.primary(0, 0), true);
        CHECK.due("path 1 is used still", link.about(0, Links.TO_USE), 1);
        Links.settle(link, 0);
        CHECK.due("a BEATACK makes path 0 active", link.path(0, 0, Links.ACTIVE), 1);
        CHECK.due("and used", link.about(0, Links.TO_USE), 0);
    }
}
