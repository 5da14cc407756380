import java.util.ArrayList;
import java.util.HashSet;
import java.util.List;
import java.util.Set;
import java.util.SortedMap;
import java.util.TreeMap;
import java.util.TreeSet;

/**
 * The document once more, in sorted maps and lists and without a thought for room: what the class
 * answers is held against this in ModelTest. It follows the document's sentences one by one.
 */
final class Model {
    /** A packet: what its kind carries stands in numbers, in the document's order. */
    private record Packet(int tag, int kind, int... numbers) {
    }

    /** DATA's content; first, last and unordered as the document names them. */
    private record Word(int value, int number, int stream, int order, boolean first, boolean last,
                        boolean unordered) {
    }

    private record Message(int firstWord, int length) {
    }

    private static final class Sending {
        final Word word;
        String state = "new";
        int path = -1;
        int strikes = 0;

        Sending(Word word) {
            this.word = word;
        }

        boolean is(String... states) {
            return List.of(states).contains(state);
        }
    }

    private static final class PathView {
        int rate = 2;
        int wait = 3;
        int errors = 0;
        boolean active = true;
        Integer timer = null;
        Integer beat = null;
    }

    /** All that an end has while it is up; a new one is made each time it comes up. */
    private final class Connection {
        final PathView[] views = {new PathView(), new PathView()};
        final SortedMap<Integer, Sending> words = new TreeMap<>();
        final SortedMap<Integer, Word> unready = new TreeMap<>();
        final Set<Integer> had = new TreeSet<>();
        final int[] sendOrders = new int[3];
        final int[] readOrders = new int[3];
        int primary = 0;
        int allErrors = 0;
        int window = room;
        int given = 0;
        int latestSack = 0;

        int latest() {
            int n = 0;
            while (had.contains(n + 1)) {
                n++;
            }
            return n;
        }

        int pathToUse() {
            if (views[primary].active) {
                return primary;
            }
            return views[1 - primary].active ? 1 - primary : primary;
        }

        int out(int path) {
            return (int) words.values().stream().filter(w -> w.is("out") && w.path == path).count();
        }
    }

    private final class End {
        final int side;
        final List<List<Packet>> rows = List.of(new ArrayList<>(), new ArrayList<>());
        final List<List<Message>> ready =
            List.of(new ArrayList<>(), new ArrayList<>(), new ArrayList<>());
        int state = 0;
        int own = 0;
        int other = 0;
        int report = 0;
        int tries = 0;
        int due = 0;
        int[] cookie = {};
        Connection connection = null;

        End(int side) {
            this.side = side;
        }

        void put(int path, Packet packet) {
            if (rows.get(path).size() < 8) {
                rows.get(path).add(packet);
            }
        }

        int kept() {
            int words = connection == null ? 0 : connection.unready.size();
            for (List<Message> messages : ready) {
                words += messages.stream().mapToInt(Message::length).sum();
            }
            return words;
        }

        void up() {
            state = 3;
            connection = new Connection();
        }

        void close(int why) {
            state = 0;
            own = 0;
            other = 0;
            report = why;
            connection = null;
        }
    }

    private final int room;
    private final int limit;
    private final int key;
    private final End[] ends = {new End(0), new End(1)};
    private final Set<Integer> opened = new HashSet<>();
    private final Set<Integer> served = new HashSet<>();
    private int now = 0;

    Model(int room, int limit, int key) {
        this.room = room < 2 ? 2 : room > 16 ? 16 : room;
        this.limit = limit < 2 ? 2 : limit > 9 ? 9 : limit;
        this.key = key;
    }

    private static boolean pair(int number) {
        return number == 0 || number == 1;
    }

    boolean open(int tag) {
        End client = ends[0];
        if (client.state != 0 || tag == 0 || opened.contains(tag)) {
            return false;
        }
        opened.add(tag);
        client.state = 1;
        client.own = tag;
        client.tries = 1;
        client.due = now + 3;
        client.put(0, new Packet(0, 0, tag));
        return true;
    }

    boolean send(int end, int stream, boolean unordered, int v, int n) {
        if (!pair(end) || stream < 0 || stream > 2 || n < 1 || n > 4 || ends[end].state != 3) {
            return false;
        }
        Connection c = ends[end].connection;
        if (c.words.size() + n > 24) {
            return false;
        }
        int order = unordered ? 0 : c.sendOrders[stream]++;
        for (int i = 0; i < n; i++) {
            int number = ++c.given;
            c.words.put(number, new Sending(
                new Word(v + i, number, stream, order, i == 0, i == n - 1, unordered)));
        }
        sendAllowed(ends[end]);
        return true;
    }

    private void sendAllowed(End end) {
        Connection c = end.connection;
        while (true) {
            Sending next = null;
            for (Sending word : c.words.values()) {
                if (next == null && word.is("new", "marked")) {
                    next = word;
                }
            }
            if (next == null) {
                return;
            }
            boolean isNew = next.is("new");
            int path = !isNew && c.views[1 - next.path].active ? 1 - next.path : c.pathToUse();
            long busy = c.words.values().stream().filter(w -> w.is("out", "marked")).count();
            if (c.out(path) >= c.views[path].rate || (isNew && busy != 0 && busy >= c.window)) {
                return;
            }
            Word w = next.word;
            end.put(path, new Packet(end.other, 4, w.value, w.number, w.stream, w.order,
                w.first ? 1 : 0, w.last ? 1 : 0, w.unordered ? 1 : 0));
            next.state = "out";
            next.path = path;
            next.strikes = 0;
            if (c.views[path].timer == null) {
                c.views[path].timer = now + c.views[path].wait;
            }
        }
    }

    int deliver(int end, int path) {
        if (!pair(end) || !pair(path) || ends[end].rows.get(path).isEmpty()) {
            return -1;
        }
        Packet packet = ends[end].rows.get(path).remove(0);
        arrive(ends[1 - end], path, packet);
        return packet.kind;
    }

    private void arrive(End end, int path, Packet p) {
        if (p.kind == 0) {
            if (end.side == 1 && p.numbers[0] != 0) {
                int tag = p.numbers[0];
                int s = Links.serverTag(key, tag);
                end.put(path, new Packet(tag, 1, s, tag, s, now, Links.seal(key, tag, now)));
            }
        } else if (p.kind == 1) {
            if (end.side == 0 && end.state == 1 && p.tag == end.own) {
                end.other = p.numbers[0];
                end.cookie = new int[] {p.numbers[1], p.numbers[2], p.numbers[3], p.numbers[4]};
                end.state = 2;
                end.tries = 1;
                end.due = now + 3;
                end.put(path, new Packet(end.other, 2, end.cookie));
            }
        } else if (p.kind == 2) {
            if (end.side == 1) {
                echo(end, path, p);
            }
        } else if (p.kind == 3) {
            if (end.side == 0 && end.state == 2 && p.tag == end.own) {
                end.up();
            }
        } else if (end.state == 3 && p.tag == end.own) {
            arriveUp(end, path, p);
        }
    }

    private void echo(End end, int path, Packet p) {
        int client = p.numbers[0];
        int server = p.numbers[1];
        long tick = p.numbers[2];
        boolean good = p.numbers[3] == Links.mix(key, client, server, p.numbers[2], 7)
            && client != 0 && server == Links.serverTag(key, client) && p.tag == server
            && tick >= now - 20L && tick <= now;
        if (!good) {
            return;
        }
        if (end.state == 0 && !served.contains(server)) {
            served.add(server);
            end.up();
            end.own = server;
            end.other = client;
        }
        if (end.own == server && end.other == client) {
            end.put(path, new Packet(end.other, 3));
        }
    }

    private void arriveUp(End end, int path, Packet p) {
        Connection c = end.connection;
        if (p.kind == 4) {
            data(end, p.numbers);
            int latest = c.latest();
            int gaps = 0;
            for (int k = 0; k < 16; k++) {
                gaps += c.had.contains(latest + 1 + k) ? 1 << k : 0;
            }
            end.put(path, new Packet(end.other, 5, latest, gaps, Math.max(0, room - end.kept())));
        } else if (p.kind == 5) {
            sack(end, p.numbers[0], p.numbers[1], p.numbers[2]);
        } else if (p.kind == 6) {
            end.put(path, new Packet(end.other, 7, p.numbers[0]));
        } else if (p.kind == 7) {
            PathView view = c.views[path];
            if (view.beat != null && view.beat == p.numbers[0]) {
                view.beat = null;
                view.active = true;
                view.errors = 0;
                c.allErrors = 0;
            }
        } else if (p.kind == 8) {
            end.close(3);
        }
    }

    private void data(End end, int[] d) {
        Connection c = end.connection;
        int number = d[1];
        int latest = c.latest();
        if (number < 1 || c.had.contains(number) || number > latest + 16
            || (end.kept() >= room && number != latest + 1)) {
            return;
        }
        c.had.add(number);
        c.unready.put(number,
            new Word(d[0], number, d[2], d[3], d[4] == 1, d[5] == 1, d[6] == 1));
        boolean found = true;
        while (found) {
            found = false;
            for (int first : new ArrayList<>(c.unready.keySet())) {
                int length = wholeAndMay(c, first);
                if (length > 0) {
                    Word w = c.unready.get(first);
                    end.ready.get(w.stream).add(new Message(w.value, length));
                    c.readOrders[w.stream] += w.unordered ? 0 : 1;
                    for (int i = 0; i < length; i++) {
                        c.unready.remove(first + i);
                    }
                    found = true;
                    break;
                }
            }
        }
    }

    private static int wholeAndMay(Connection c, int first) {
        Word w = c.unready.get(first);
        if (!w.first || (!w.unordered && w.order != c.readOrders[w.stream])) {
            return 0;
        }
        int length = 1;
        while (!w.last) {
            w = c.unready.get(first + length);
            if (w == null) {
                return 0;
            }
            length++;
        }
        return length;
    }

    private void sack(End end, int number, int gaps, int window) {
        Connection c = end.connection;
        if (number < c.latestSack || number > c.given) {
            return;
        }
        c.latestSack = number;
        Set<Integer> good = new TreeSet<>();
        for (int n : new ArrayList<>(c.words.headMap(number + 1).keySet())) {
            Sending word = c.words.remove(n);
            if (word.is("out", "marked")) {
                good.add(word.path);
            }
        }
        int greatest = 0;
        for (int k = 0; k < 16; k++) {
            if ((gaps & (1 << k)) != 0) {
                greatest = number + 1 + k;
                Sending word = c.words.get(greatest);
                if (word != null && word.is("out", "marked")) {
                    word.state = "held";
                    good.add(word.path);
                }
            }
        }
        c.window = window;
        for (int path : good) {
            PathView view = c.views[path];
            view.errors = 0;
            c.allErrors = 0;
            view.wait = 3;
            view.rate = Math.min(8, view.rate + 1);
            view.active = true;
        }
        for (Sending word : c.words.headMap(greatest).values()) {
            if (word.is("out") && ++word.strikes == 3) {
                word.state = "marked";
                word.strikes = 0;
                c.views[word.path].rate = Math.max(1, c.views[word.path].rate / 2);
            }
        }
        for (int path = 0; path < 2; path++) {
            if (c.out(path) == 0) {
                c.views[path].timer = null;
            } else if (good.contains(path)) {
                c.views[path].timer = now + c.views[path].wait;
            }
        }
        sendAllowed(end);
    }

    boolean alter(int end, int path, boolean twice) {
        if (!pair(end) || !pair(path)) {
            return false;
        }
        List<Packet> row = ends[end].rows.get(path);
        if (row.isEmpty() || (twice && row.size() == 8)) {
            return false;
        }
        if (twice) {
            row.add(row.get(0));
        } else {
            row.remove(0);
        }
        return true;
    }

    boolean forge(int end, int kind, int tag, int a, int b, int c, int d) {
        if (!pair(end) || ends[1 - end].rows.get(0).size() == 8) {
            return false;
        }
        Packet packet;
        if (kind == 0) {
            packet = new Packet(0, 0, a);
        } else if (kind == 2 && tag != ends[end].own) {
            packet = new Packet(tag, 2, a, b, c, d);
        } else if (kind == 8 && tag != ends[end].own) {
            packet = new Packet(tag, 8);
        } else {
            return false;
        }
        ends[1 - end].put(0, packet);
        return true;
    }

    int tick() {
        now++;
        for (End end : ends) {
            if ((end.state == 1 || end.state == 2) && end.due == now) {
                if (end.tries == limit) {
                    end.close(2);
                } else {
                    end.tries++;
                    end.due = now + 3;
                    end.put(end.tries % 2, end.state == 1
                        ? new Packet(0, 0, end.own) : new Packet(end.other, 2, end.cookie));
                }
            } else if (end.state == 3) {
                tickUp(end);
            }
        }
        return now;
    }

    private void tickUp(End end) {
        Connection c = end.connection;
        for (int path = 0; path < 2; path++) {
            PathView view = c.views[path];
            if (view.timer != null && view.timer == now) {
                for (Sending word : c.words.values()) {
                    if (word.is("out") && word.path == path) {
                        word.state = "marked";
                    }
                }
                view.rate = 1;
                view.wait = Math.min(24, 2 * view.wait);
                view.timer = null;
                if (errorCloses(end, view)) {
                    return;
                }
            } else if (now % 8 == 0 && c.out(path) == 0) {
                if (view.beat != null && errorCloses(end, view)) {
                    return;
                }
                view.beat = now;
                end.put(path, new Packet(end.other, 6, now));
            }
        }
        sendAllowed(end);
    }

    private boolean errorCloses(End end, PathView view) {
        Connection c = end.connection;
        view.errors++;
        c.allErrors++;
        if (view.errors >= 3) {
            view.active = false;
        }
        if (c.allErrors <= limit) {
            return false;
        }
        end.put(c.pathToUse(), new Packet(end.other, 8));
        end.close(1);
        return true;
    }

    private List<Message> readyAt(int end, int stream) {
        return pair(end) && stream >= 0 && stream <= 2 ? ends[end].ready.get(stream) : null;
    }

    int read(int end, int stream) {
        List<Message> messages = readyAt(end, stream);
        return messages == null || messages.isEmpty() ? 0 : messages.remove(0).firstWord;
    }

    int ready(int end, int stream) {
        List<Message> messages = readyAt(end, stream);
        return messages == null ? -1 : messages.size();
    }

    int length(int end, int stream) {
        List<Message> messages = readyAt(end, stream);
        return messages == null || messages.isEmpty() ? 0 : messages.get(0).length;
    }

    boolean abort(int end) {
        if (!pair(end) || ends[end].state == 0) {
            return false;
        }
        if (ends[end].state == 3) {
            ends[end].put(ends[end].connection.pathToUse(), new Packet(ends[end].other, 8));
        }
        ends[end].close(3);
        return true;
    }

    boolean primary(int end, int path) {
        if (!pair(end) || !pair(path) || ends[end].state != 3) {
            return false;
        }
        ends[end].connection.primary = path;
        return true;
    }

    int about(int end, int what) {
        if (!pair(end) || what < 0 || what > 9) {
            return -1;
        }
        End e = ends[end];
        Connection c = e.connection;
        int[] always = {e.state, e.own, e.other, e.report};
        if (what < 4) {
            return always[what];
        }
        if (what == 6) {
            return e.kept();
        }
        if (c == null) {
            return 0;
        }
        int[] up = {c.words.size(), c.latest(), 0, c.allErrors, c.window, c.pathToUse()};
        return up[what - 4];
    }

    int path(int end, int path, int what) {
        if (!pair(end) || !pair(path) || what < 0 || what > 6) {
            return -1;
        }
        Connection c = ends[end].connection;
        if (c == null) {
            return 0;
        }
        PathView view = c.views[path];
        int[] all = {view.rate, view.wait, view.errors, view.active ? 1 : 0, c.out(path),
            view.timer == null ? 0 : 1, view.beat == null ? 0 : 1};
        return all[what];
    }

    int waiting(int end, int path) {
        return pair(end) && pair(path) ? ends[end].rows.get(path).size() : -1;
    }

    /** How many numbers an end has given, so that a test knows which words are worth asking for. */
    int given(int end) {
        Connection c = ends[end].connection;
        return c == null ? 0 : c.given;
    }

    int word(int end, int number) {
        Connection c = pair(end) ? ends[end].connection : null;
        Sending word = c == null ? null : c.words.get(number);
        return word == null ? 0 : List.of("", "new", "out", "marked", "held").indexOf(word.state);
    }
}
