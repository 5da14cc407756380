import java.util.ArrayList;
import java.util.Arrays;
import java.util.List;
import java.util.Random;

/** Promises 1 to 16 together: long runs of calls, held against the plain model call by call. */
public final class ModelTest {
    private static final int RUNS = 600;
    private static final int CALLS = 512;
    private static final int MOST_NUMBER = 150;
    private static final int[] ODD = {Integer.MIN_VALUE, -2, -1, 0, 1, 2, 3, 4, 5, Integer.MAX_VALUE};

    private static int sent = 0;
    private static int reads = 0;
    private static int marked = 0;
    private static int held = 0;
    private static int inactive = 0;
    private static final int[] REPORTS = new int[4];
    private static int upAgain = 0;

    public static void main(String[] args) {
        for (int seed = 0; seed < RUNS; seed++) {
            if (!new Run(seed).agrees()) {
                System.exit(1);
            }
        }
        System.out.println("model: " + RUNS + " runs agree; sends " + sent + ", reads " + reads
            + ", marked " + marked + ", held " + held + ", paths inactive " + inactive
            + ", up again " + upAgain
            + ", reports " + REPORTS[1] + " " + REPORTS[2] + " " + REPORTS[3]);
        boolean sawAll = sent > RUNS && reads > RUNS && marked > RUNS && held > RUNS
            && inactive > RUNS && upAgain > RUNS / 10
            && REPORTS[1] > 0 && REPORTS[2] > 0 && REPORTS[3] > 0;
        if (!sawAll) {
            System.out.println("model: the runs saw too little");
            System.exit(1);
        }
    }

    /** One run: a seed decides its numbers and how well its paths carry. */
    private static final class Run {
        private final int seed;
        private final Random random;
        private final int key;
        private final StreamLink link;
        private final Model model;
        private final List<String> calls = new ArrayList<>();
        private final int loss;
        private final int tickiness;
        private final int readiness;
        private int now = 0;
        private int nextTag = 1;
        private boolean wrong = false;

        Run(int seed) {
            this.seed = seed;
            random = new Random(seed);
            key = random.nextInt(3) == 0 ? random.nextInt() : random.nextInt(5);
            int room = random.nextInt(20);
            int limit = random.nextInt(12);
            link = new StreamLink(room, limit, key);
            model = new Model(room, limit, key);
            calls.add("new StreamLink(" + room + ", " + limit + ", " + key + ")");
            loss = random.nextInt(40);
            tickiness = 2 + random.nextInt(25);
            readiness = random.nextInt(20);
        }

        boolean agrees() {
            int wasState = 0;
            boolean wasUp = false;
            for (int i = 0; i < CALLS && !wrong; i++) {
                call();
                watch();
                int state = model.about(0, 0);
                if (state == 3 && wasState != 3) {
                    upAgain += wasUp ? 1 : 0;
                    wasUp = true;
                }
                if (state == 0 && wasState != 0) {
                    REPORTS[model.about(0, 3)]++;
                }
                wasState = state;
            }
            if (wrong) {
                System.out.println("model: seed " + seed + " after these calls:");
                calls.forEach(call -> System.out.println("  " + call));
            }
            return !wrong;
        }

        private void due(String call, int got, int want) {
            calls.add(call + " = " + got);
            if (got != want) {
                wrong = true;
                calls.add("  due is " + want);
            }
        }

        private void due(String call, boolean got, boolean want) {
            due(call, got ? 1 : 0, want ? 1 : 0);
        }

        private int odd() {
            return ODD[random.nextInt(ODD.length)];
        }

        private int pair() {
            return random.nextInt(60) == 0 ? odd() : random.nextInt(2);
        }

        private int stream() {
            return random.nextInt(60) == 0 ? odd() : random.nextInt(3);
        }

        private void call() {
            int dice = random.nextInt(200);
            if (model.about(0, 0) == 0 && dice < 60) {
                openOnce();
            } else if (dice < tickiness) {
                due("tick()", link.tick(), model.tick());
                now++;
            } else if (dice < 70) {
                sendOnce();
            } else if (dice < 70 + loss) {
                int end = pair();
                int path = pair();
                boolean twice = random.nextInt(3) == 0;
                due("alter(" + end + ", " + path + ", " + twice + ")",
                    link.alter(end, path, twice), model.alter(end, path, twice));
            } else if (dice < 180 - readiness) {
                int end = pair();
                int path = pair();
                due("deliver(" + end + ", " + path + ")",
                    link.deliver(end, path), model.deliver(end, path));
            } else if (dice < 190) {
                int end = pair();
                int stream = stream();
                reads += model.ready(end, stream) > 0 ? 1 : 0;
                due("read(" + end + ", " + stream + ")",
                    link.read(end, stream), model.read(end, stream));
            } else if (dice < 194) {
                forgeOnce();
            } else {
                rareCall();
            }
        }

        private void openOnce() {
            int tag = random.nextInt(4) == 0 ? random.nextInt(4) : nextTag++;
            if (random.nextInt(10) == 0) {
                tag = Links.mix(key);
            }
            due("open(" + tag + ")", link.open(tag), model.open(tag));
        }

        private void sendOnce() {
            int end = pair();
            int stream = stream();
            boolean unordered = random.nextInt(3) == 0;
            int v = random.nextInt(20) == 0 ? odd() : random.nextInt(1000);
            int n = random.nextInt(40) == 0 ? odd() : 1 + random.nextInt(4);
            boolean got = link.send(end, stream, unordered, v, n);
            sent += got ? 1 : 0;
            due("send(" + end + ", " + stream + ", " + unordered + ", " + v + ", " + n + ")",
                got, model.send(end, stream, unordered, v, n));
        }

        private void forgeOnce() {
            int end = pair();
            int kind = random.nextInt(10) == 0 ? odd() : new int[] {0, 2, 8}[random.nextInt(3)];
            int client = random.nextInt(8) == 0 ? odd() : nextTag - 1 + random.nextInt(3);
            int server = random.nextInt(8) == 0 ? odd() : Links.serverTag(key, client);
            int tick = random.nextInt(12) == 0 ? odd() : now - random.nextInt(24) + 1;
            int seal = random.nextInt(6) == 0 ? odd() : Links.mix(key, client, server, tick, 7);
            int tag = random.nextInt(5) == 0 ? odd() : kind == 2 ? server : client;
            due("forge(" + end + ", " + kind + ", " + tag + ", " + client + ", " + server + ", "
                + tick + ", " + seal + ")", link.forge(end, kind, tag, client, server, tick, seal),
                model.forge(end, kind, tag, client, server, tick, seal));
        }

        private void rareCall() {
            int end = pair();
            int path = pair();
            int dice = random.nextInt(20);
            if (dice == 0) {
                due("abort(" + end + ")", link.abort(end), model.abort(end));
            } else if (dice < 10) {
                due("primary(" + end + ", " + path + ")",
                    link.primary(end, path), model.primary(end, path));
            } else {
                openOnce();
            }
        }

        /** Every answer that changes nothing, after each call, with numbers that are not there too. */
        private void watch() {
            for (int end = -1; end <= 2; end++) {
                for (int what = -1; what <= 10; what++) {
                    same("about", link.about(end, what), model.about(end, what), end, what);
                }
                for (int path = -1; path <= 2; path++) {
                    watchPath(end, path);
                }
                for (int stream = -1; stream <= 3; stream++) {
                    same("ready", link.ready(end, stream), model.ready(end, stream), end, stream);
                    same("length", link.length(end, stream), model.length(end, stream), end, stream);
                }
                for (int number = -1; number <= MOST_NUMBER; number++) {
                    int state = model.word(end, number);
                    same("word", link.word(end, number), state, end, number);
                    marked += state == 3 ? 1 : 0;
                    held += state == 4 ? 1 : 0;
                }
            }
        }

        private void watchPath(int end, int path) {
            same("waiting", link.waiting(end, path), model.waiting(end, path), end, path);
            for (int what = -1; what <= 7; what++) {
                same("path", link.path(end, path, what), model.path(end, path, what), end, path, what);
            }
            inactive += model.path(end, path, 1) > 0 && model.path(end, path, 3) == 0 ? 1 : 0;
        }

        /** Like due, but a call is told only if its answer is wrong: there are many of these. */
        private void same(String name, int got, int want, int... arguments) {
            if (got != want) {
                due(name + Arrays.toString(arguments), got, want);
            }
        }
    }
}
