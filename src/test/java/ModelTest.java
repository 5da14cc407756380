import java.util.ArrayList;
import java.util.Arrays;
import java.util.List;
import java.util.Random;

/**
 * Promises 1 to 16 together: runs of calls, held against the plain model call by call. No object
 * has more than 512 calls, since what later ones answer is free.
 */
public final class ModelTest {
    private static final int RUNS = 20_000;
    private static final int CALLS = 512;
    /** Words that are not gone are at most 24; some gone ones and one to come are asked for, too. */
    private static final int WORDS = 30;
    /** What lookAtAll asks of both ends: about, path and waiting, ready and length, words. */
    private static final int FULL_LOOK = 2 * (10 + 2 * (7 + 1) + 3 * 2 + WORDS);
    private static final int[] ODD = {Integer.MIN_VALUE, -2, -1, 0, 1, 2, 3, 4, 5, Integer.MAX_VALUE};

    private static int sent = 0;
    private static int reads = 0;
    private static int marked = 0;
    private static int held = 0;
    private static int inactive = 0;
    private static final int[] REPORTS = new int[4];
    private static int upAgain = 0;

    public static void main(String[] args) {
        for (int seed = 0; seed < RUNS; seed++) {
            if (!new Run(seed).agrees()) {
                System.exit(1);
            }
        }
        System.out.println("model: " + RUNS + " runs agree; sends " + sent + ", reads " + reads
            + ", marked " + marked + ", held " + held + ", paths inactive " + inactive
            + ", up again " + upAgain
            + ", reports " + REPORTS[1] + " " + REPORTS[2] + " " + REPORTS[3]);
        boolean sawAll = sent > RUNS && reads > RUNS && marked > RUNS / 10 && held > RUNS / 10
            && inactive > RUNS / 20 && upAgain > RUNS / 10
            && REPORTS[1] > 0 && REPORTS[2] > 0 && REPORTS[3] > 0;
        if (!sawAll) {
            System.out.println("model: the runs saw too little");
            System.exit(1);
        }
    }

    /** One run: a seed decides its numbers, how well its paths carry and how often it looks. */
    private static final class Run {
        private final int seed;
        private final Random random;
        private final int key;
        private final StreamLink link;
        private final Model model;
        private final List<String> calls = new ArrayList<>();
        private final int loss;
        private final int tickiness;
        private final int readiness;
        private final int looks;
        private int made = 0;
        private int now = 0;
        private int nextTag = 1;
        private int stateBefore = 0;
        private boolean wasUp = false;
        private boolean wrong = false;

        Run(int seed) {
            this.seed = seed;
            random = new Random(seed);
            key = random.nextInt(3) == 0 ? random.nextInt() : random.nextInt(5);
            int room = random.nextInt(20);
            int limit = random.nextInt(12);
            link = new StreamLink(room, limit, key);
            model = new Model(room, limit, key);
            calls.add("new StreamLink(" + room + ", " + limit + ", " + key + ")");
            loss = random.nextInt(40);
            tickiness = random.nextInt(4) == 0 ? 30 + random.nextInt(30) : 2 + random.nextInt(25);
            readiness = random.nextInt(20);
            looks = random.nextInt(4) == 0 ? 2 : 0;
        }

        /** Many runs end early, so that all that can be seen is looked at in many moments. */
        boolean agrees() {
            int most = CALLS - FULL_LOOK;
            int length = random.nextBoolean() ? most : 20 + random.nextInt(most - 19);
            if (random.nextInt(4) > 0) {
                connect();
            }
            while (made < length && !wrong) {
                call();
                countWhatHappened();
                for (int i = 0; i < looks && made < length; i++) {
                    look();
                }
            }
            lookAtAll();
            if (wrong || made > CALLS) {
                System.out.println("model: seed " + seed + " after these calls:");
                calls.forEach(call -> System.out.println("  " + call));
                return false;
            }
            return true;
        }

        private void countWhatHappened() {
            int state = model.about(0, 0);
            if (state == 3 && stateBefore != 3) {
                upAgain += wasUp ? 1 : 0;
                wasUp = true;
            }
            if (state == 0 && stateBefore != 0) {
                REPORTS[model.about(0, 3)]++;
            }
            stateBefore = state;
        }

        private void due(String call, int got, int want) {
            made++;
            calls.add(call + " = " + got);
            if (got != want) {
                wrong = true;
                calls.add("  due is " + want);
            }
        }

        private void due(String call, boolean got, boolean want) {
            due(call, got ? 1 : 0, want ? 1 : 0);
        }

        /** Like due, but the call is told only if its answer is wrong: there are many of these. */
        private void same(String name, int got, int want, int... arguments) {
            if (got == want) {
                made++;
            } else {
                due(name + Arrays.toString(arguments), got, want);
            }
        }

        private int odd() {
            return ODD[random.nextInt(ODD.length)];
        }

        private int pair() {
            return random.nextInt(60) == 0 ? odd() : random.nextInt(2);
        }

        private int stream() {
            return random.nextInt(60) == 0 ? odd() : random.nextInt(3);
        }

        private void call() {
            int dice = random.nextInt(200);
            if (model.about(0, 0) == 0 && dice < 60) {
                openOnce();
            } else if (dice < tickiness) {
                due("tick()", link.tick(), model.tick());
                now++;
            } else if (dice < 70) {
                sendOnce();
            } else if (dice < 70 + loss) {
                int end = pair();
                int path = pair();
                boolean twice = random.nextInt(3) == 0;
                due("alter(" + end + ", " + path + ", " + twice + ")",
                    link.alter(end, path, twice), model.alter(end, path, twice));
            } else if (dice < 180 - readiness) {
                int end = pair();
                int path = pair();
                due("deliver(" + end + ", " + path + ")",
                    link.deliver(end, path), model.deliver(end, path));
            } else if (dice < 190) {
                int end = pair();
                int stream = stream();
                reads += model.ready(end, stream) > 0 ? 1 : 0;
                due("read(" + end + ", " + stream + ")",
                    link.read(end, stream), model.read(end, stream));
            } else if (dice < 194) {
                forgeOnce();
            } else {
                rareCall();
            }
        }

        /** Both ends come up at once, so that more of the run goes to words and ticks. */
        private void connect() {
            openOnce();
            for (int i = 0; i < 4; i++) {
                int end = i % 2;
                due("deliver(" + end + ", 0)", link.deliver(end, 0), model.deliver(end, 0));
            }
        }

        private void openOnce() {
            int tag = random.nextInt(4) == 0 ? random.nextInt(4) : nextTag++;
            if (random.nextInt(10) == 0) {
                tag = Links.mix(key);
            }
            due("open(" + tag + ")", link.open(tag), model.open(tag));
        }

        private void sendOnce() {
            int end = pair();
            int stream = stream();
            boolean unordered = random.nextInt(3) == 0;
            int v = random.nextInt(20) == 0 ? odd() : random.nextInt(1000);
            int n = random.nextInt(40) == 0 ? odd() : 1 + random.nextInt(4);
            boolean got = link.send(end, stream, unordered, v, n);
            sent += got ? 1 : 0;
            due("send(" + end + ", " + stream + ", " + unordered + ", " + v + ", " + n + ")",
                got, model.send(end, stream, unordered, v, n));
        }

        private void forgeOnce() {
            int end = pair();
            int kind = random.nextInt(10) == 0 ? odd() : new int[] {0, 2, 8}[random.nextInt(3)];
            int client = random.nextInt(8) == 0 ? odd() : nextTag - 1 + random.nextInt(3);
            int server = random.nextInt(8) == 0 ? odd() : Links.serverTag(key, client);
            int tick = random.nextInt(12) == 0 ? odd() : now - random.nextInt(24) + 1;
            int seal = random.nextInt(6) == 0 ? odd() : Links.mix(key, client, server, tick, 7);
            int tag = random.nextInt(5) == 0 ? odd() : kind == 2 ? server : client;
            due("forge(" + end + ", " + kind + ", " + tag + ", " + client + ", " + server + ", "
                + tick + ", " + seal + ")", link.forge(end, kind, tag, client, server, tick, seal),
                model.forge(end, kind, tag, client, server, tick, seal));
        }

        private void rareCall() {
            int end = pair();
            int path = pair();
            int dice = random.nextInt(20);
            if (dice == 0) {
                due("abort(" + end + ")", link.abort(end), model.abort(end));
            } else if (dice < 10) {
                due("primary(" + end + ", " + path + ")",
                    link.primary(end, path), model.primary(end, path));
            } else {
                openOnce();
            }
        }

        /** One answer that changes nothing, now and then about what is not there. */
        private void look() {
            int end = random.nextInt(-1, 3);
            switch (random.nextInt(6)) {
                case 0 -> lookAtAbout(end, random.nextInt(-1, 11));
                case 1 -> lookAtPath(end, random.nextInt(-1, 3), random.nextInt(-1, 8));
                case 2 -> lookAtWaiting(end, random.nextInt(-1, 3));
                case 3 -> lookAtReady(end, random.nextInt(-1, 4));
                case 4 -> lookAtLength(end, random.nextInt(-1, 4));
                default -> lookAtWord(end, random.nextInt(-1, 60));
            }
        }

        /** Every answer about what is there; FULL_LOOK counts these calls. */
        private void lookAtAll() {
            for (int end = 0; end < 2; end++) {
                for (int what = 0; what <= 9; what++) {
                    lookAtAbout(end, what);
                }
                for (int path = 0; path < 2; path++) {
                    lookAtWaiting(end, path);
                    for (int what = 0; what <= 6; what++) {
                        lookAtPath(end, path, what);
                    }
                }
                for (int stream = 0; stream < 3; stream++) {
                    lookAtReady(end, stream);
                    lookAtLength(end, stream);
                }
                for (int i = 0; i < WORDS; i++) {
                    lookAtWord(end, model.given(end) + 1 - i);
                }
            }
        }

        private void lookAtAbout(int end, int what) {
            same("about", link.about(end, what), model.about(end, what), end, what);
        }

        private void lookAtPath(int end, int path, int what) {
            same("path", link.path(end, path, what), model.path(end, path, what), end, path, what);
            inactive += what == 3 && model.path(end, path, 1) > 0
                && model.path(end, path, 3) == 0 ? 1 : 0;
        }

        private void lookAtWaiting(int end, int path) {
            same("waiting", link.waiting(end, path), model.waiting(end, path), end, path);
        }

        private void lookAtReady(int end, int stream) {
            same("ready", link.ready(end, stream), model.ready(end, stream), end, stream);
        }

        private void lookAtLength(int end, int stream) {
            same("length", link.length(end, stream), model.length(end, stream), end, stream);
        }

        private void lookAtWord(int end, int number) {
            int state = model.word(end, number);
            same("word", link.word(end, number), state, end, number);
            marked += state == 3 ? 1 : 0;
            held += state == 4 ? 1 : 0;
        }
    }
}
