import java.util.ArrayList;
import java.util.Comparator;
import java.util.HashSet;
import java.util.List;
import java.util.Set;

/**
 * The document once more, word by word and without a thought for speed or room: lists that are
 * searched, a history of who was hungry, distances by relaxing. ModelTest holds FlitTorus against it.
 */
final class PlainTorus {
    static final class Packet {
        int source;
        int goal;
        int length;
        int tag;
        int slot = -1;
        int tryNow;
        Set<Integer> enteredInThisTry = new HashSet<>();
        boolean asked;
    }

    static final class Flit {
        Packet packet;
        int number;
        int entry;
        int tryThen;
        int node;
        int line;
    }

    record Note(Packet packet, boolean done, int due) {
    }

    record Ready(Packet packet, int tryThen) {
    }

    static final class Place {
        Packet packet;
        int tryThen;
        Set<Integer> have = new HashSet<>();
    }

    static final class Node {
        List<Packet> waiting = new ArrayList<>();
        List<Packet> again = new ArrayList<>();
        List<Packet> asked = new ArrayList<>();
        List<Ready> ready = new ArrayList<>();
        Ready taken;
        Packet[] slots = new Packet[8];
        Place[] places = {new Place(), new Place(), new Place(), new Place()};
        int out;
    }

    int n;
    int mode;
    int patience;
    int cycle;
    int turn;
    int deflected;
    int received;
    int askedFor;
    /** How often the golden flit won against one that was older: tells whether a run tried that. */
    int goldenWins;
    int abandoned;
    boolean[][] open;
    int[][] d;
    Node[] nodes;
    List<Flit> flits;
    List<Note> notes;
    List<boolean[]> hungry;

    PlainTorus() {
        reset(2, 0, 1);
    }

    boolean reset(int n, int mode, int patience) {
        if (n < 2 || n > 8 || (mode != 0 && mode != 1) || patience < 1 || patience > 1000) {
            return false;
        }
        this.n = n;
        this.mode = mode;
        this.patience = patience;
        cycle = 0;
        turn = 0;
        deflected = 0;
        received = 0;
        askedFor = 0;
        flits = new ArrayList<>();
        notes = new ArrayList<>();
        hungry = new ArrayList<>();
        nodes = new Node[n * n];
        open = new boolean[n * n][4];
        for (int i = 0; i < n * n; i++) {
            nodes[i] = new Node();
            open[i] = new boolean[] {true, true, true, true};
        }
        d = distances();
        return true;
    }

    int next(int node, int way) {
        int[] dx = {1, -1, 0, 0};
        int[] dy = {0, 0, 1, -1};
        return Math.floorMod(node / n + dy[way], n) * n + Math.floorMod(node % n + dx[way], n);
    }

    int[][] distances() {
        int far = 1000;
        int[][] to = new int[n * n][n * n];
        for (int a = 0; a < n * n; a++) {
            for (int b = 0; b < n * n; b++) {
                to[a][b] = a == b ? 0 : far;
            }
            for (int way = 0; way < 4; way++) {
                if (open[a][way]) {
                    to[a][next(a, way)] = 1;
                }
            }
        }
        for (int k = 0; k < n * n; k++) {
            for (int a = 0; a < n * n; a++) {
                for (int b = 0; b < n * n; b++) {
                    to[a][b] = Math.min(to[a][b], to[a][k] + to[k][b]);
                }
            }
        }
        return to;
    }

    boolean isNode(int node) {
        return node >= 0 && node < n * n;
    }

    int openWays(int node) {
        int count = 0;
        for (boolean one : open[node]) {
            count += one ? 1 : 0;
        }
        return count;
    }

    boolean link(int node, int way, boolean toOpen) {
        if (!isNode(node) || way < 0 || way > 3 || mode == 1 || open[node][way] == toOpen) {
            return false;
        }
        if (!notes.isEmpty() || !flits.isEmpty()) {
            return false;
        }
        for (Node one : nodes) {
            if (!one.waiting.isEmpty() || used(one) > 0) {
                return false;
            }
        }
        int other = next(node, way);
        int wayBack = new int[] {1, 0, 3, 2}[way];
        open[node][way] = toOpen;
        open[other][wayBack] = toOpen;
        int[][] then = distances();
        boolean falls = false;
        for (int a = 0; a < n * n; a++) {
            falls |= openWays(a) < 2;
            for (int b = 0; b < n * n; b++) {
                falls |= then[a][b] >= 1000;
            }
        }
        if (falls) {
            open[node][way] = !toOpen;
            open[other][wayBack] = !toOpen;
            return false;
        }
        d = then;
        return true;
    }

    boolean put(int node, int goal, int length, int tag) {
        if (!isNode(node) || !isNode(goal) || node == goal || length < 1 || length > 8) {
            return false;
        }
        if (nodes[node].waiting.size() == 4) {
            return false;
        }
        Packet packet = new Packet();
        packet.source = node;
        packet.goal = goal;
        packet.length = length;
        packet.tag = tag;
        nodes[node].waiting.add(packet);
        return true;
    }

    int goldenIndex() {
        int greatest = 0;
        for (int[] row : d) {
            for (int one : row) {
                greatest = Math.max(greatest, one);
            }
        }
        int l = 2 * (greatest + 8);
        return (cycle / l) % (n * n * 64);
    }

    boolean isGolden(Flit flit) {
        int g = goldenIndex();
        return flit.packet.source == g / 64 && flit.packet.slot == g / 8 % 8 && flit.number == g % 8;
    }

    Comparator<Flit> byAge() {
        return Comparator.<Flit>comparingInt(f -> f.entry).thenComparingInt(f -> f.packet.source)
                .thenComparingInt(f -> f.packet.slot).thenComparingInt(f -> f.number);
    }

    List<Flit> at(int node) {
        List<Flit> there = new ArrayList<>();
        for (Flit flit : flits) {
            if (flit.node == node) {
                there.add(flit);
            }
        }
        there.sort(byAge());
        for (int i = 1; i < there.size(); i++) {
            if (isGolden(there.get(i))) {
                goldenWins++;
                there.add(0, there.remove(i));
            }
        }
        return there;
    }

    boolean wanted(int node, int way, int goal) {
        return open[node][way] && d[next(node, way)][goal] < d[node][goal];
    }

    int cycle() {
        tell();
        for (int node = 0; node < n * n; node++) {
            int left = 0;
            for (Flit flit : at(node)) {
                if (flit.packet.goal == node && left < 2) {
                    left++;
                    flits.remove(flit);
                    received++;
                    receive(node, flit);
                }
            }
        }
        enter();
        List<Flit> moved = new ArrayList<>();
        for (int node = 0; node < n * n; node++) {
            List<Flit> there = at(node);
            int[] ways = mode == 0 ? waysByRank(node, there) : waysByCells(node, there);
            for (int i = 0; i < there.size(); i++) {
                Flit flit = there.get(i);
                if (!wanted(node, ways[i], flit.packet.goal)) {
                    deflected++;
                }
                nodes[node].out++;
                Flit then = new Flit();
                then.packet = flit.packet;
                then.number = flit.number;
                then.entry = flit.entry;
                then.tryThen = flit.tryThen;
                then.node = next(node, ways[i]);
                then.line = ways[i];
                moved.add(then);
            }
        }
        flits = moved;
        cycle++;
        return moved.size();
    }

    void tell() {
        List<Note> later = new ArrayList<>();
        for (Note note : notes) {
            if (note.due != cycle) {
                later.add(note);
                continue;
            }
            Packet packet = note.packet;
            Node source = nodes[packet.source];
            if (note.done) {
                source.slots[packet.slot] = null;
            } else {
                int had = packet.enteredInThisTry.size();
                abandoned += had < packet.length ? 1 : 0;
                source.again.add(packet);
                packet.tryNow++;
                packet.enteredInThisTry.clear();
            }
        }
        notes = later;
    }

    void send(Packet packet, boolean done) {
        notes.add(new Note(packet, done, cycle + d[packet.goal][packet.source]));
    }

    void receive(int number, Flit flit) {
        Node node = nodes[number];
        Place found = null;
        for (Place place : node.places) {
            if (place.packet == flit.packet && place.tryThen == flit.tryThen) {
                found = place;
            }
        }
        if (found == null && flit.tryThen == 1 && !flit.packet.asked) {
            for (int i = 3; i >= 0; i--) {
                if (node.places[i].packet == null) {
                    found = node.places[i];
                }
            }
            if (found != null) {
                found.packet = flit.packet;
                found.tryThen = flit.tryThen;
                found.have.clear();
            }
        }
        if (found != null) {
            if (!found.have.add(flit.number)) {
                throw new IllegalStateException("a flit came twice");
            }
        } else if (!flit.packet.asked) {
            flit.packet.asked = true;
            askedFor++;
            node.asked.add(flit.packet);
        }
        settle(node);
    }

    void settle(Node node) {
        for (Place place : node.places) {
            if (place.packet != null && place.have.size() == place.packet.length && node.ready.size() < 4) {
                node.ready.add(new Ready(place.packet, place.tryThen));
                send(place.packet, true);
                place.packet = null;
                place.have.clear();
            }
        }
        for (Place place : node.places) {
            if (place.packet == null && !node.asked.isEmpty()) {
                place.packet = node.asked.remove(0);
                place.tryThen = place.packet.tryNow + 1;
                send(place.packet, false);
            }
        }
    }

    boolean inNet(Packet packet) {
        return flits.stream().anyMatch(f -> f.packet == packet);
    }

    /** The packet whose flit might enter at a node, or null. */
    Packet candidate(Node node) {
        for (Packet packet : node.slots) {
            if (packet != null) {
                int entered = packet.enteredInThisTry.size();
                if (entered > 0 && entered < packet.length) {
                    return packet;
                }
            }
        }
        if (!node.again.isEmpty() && !inNet(node.again.get(0))) {
            return node.again.get(0);
        }
        return !node.waiting.isEmpty() && used(node) < 8 ? node.waiting.get(0) : null;
    }

    int hungryFor(int node) {
        int count = 0;
        for (int i = hungry.size() - 1; i >= 0 && hungry.get(i)[node]; i--) {
            count++;
        }
        return count;
    }

    void enter() {
        int chosen = -1;
        for (int i = n * n - 1; i >= 0; i--) {
            int node = (turn + i) % (n * n);
            if (hungryFor(node) >= patience) {
                chosen = node;
            }
        }
        boolean[] now = new boolean[n * n];
        for (int number = 0; number < n * n; number++) {
            Packet packet = candidate(nodes[number]);
            if (packet == null) {
                continue;
            }
            boolean room = at(number).size() < openWays(number);
            if (!room || (chosen >= 0 && chosen != number)) {
                now[number] = true;
                continue;
            }
            enterOne(number, packet);
            if (chosen == number) {
                turn = number + 1 == n * n ? 0 : number + 1;
            }
        }
        hungry.add(now);
    }

    void enterOne(int number, Packet packet) {
        Node node = nodes[number];
        if (node.waiting.remove(packet)) {
            int slot = 0;
            while (node.slots[slot] != null) {
                slot++;
            }
            node.slots[slot] = packet;
            packet.slot = slot;
            packet.tryNow = 1;
        }
        node.again.remove(packet);
        Flit flit = new Flit();
        flit.packet = packet;
        flit.number = packet.enteredInThisTry.size();
        flit.entry = cycle;
        flit.tryThen = packet.tryNow;
        flit.node = number;
        Set<Integer> lines = new HashSet<>();
        for (Flit other : at(number)) {
            lines.add(other.line);
        }
        while (lines.contains(flit.line)) {
            flit.line++;
        }
        packet.enteredInThisTry.add(flit.number);
        flits.add(flit);
    }

    int[] waysByRank(int node, List<Flit> ranked) {
        List<Integer> left = new ArrayList<>();
        for (int way = 0; way < 4; way++) {
            if (open[node][way]) {
                left.add(way);
            }
        }
        int[] ways = new int[ranked.size()];
        for (int i = 0; i < ways.length; i++) {
            int goal = ranked.get(i).packet.goal;
            Integer way = left.stream().filter(w -> wanted(node, w, goal)).findFirst().orElse(left.get(0));
            left.remove(way);
            ways[i] = way;
        }
        return ways;
    }

    int[] waysByCells(int node, List<Flit> ranked) {
        int[] ways = new int[ranked.size()];
        List<Integer> first = new ArrayList<>();
        List<Integer> second = new ArrayList<>();
        for (int i = 0; i < ways.length; i++) {
            (ranked.get(i).line < 2 ? first : second).add(i);
        }
        boolean[] up = new boolean[ways.length];
        for (List<Integer> cell : List.of(first, second)) {
            for (int k = 0; k < cell.size(); k++) {
                int goal = ranked.get(cell.get(k)).packet.goal;
                up[cell.get(k)] = k == 0 ? wanted(node, 0, goal) || wanted(node, 1, goal) : !up[cell.get(0)];
            }
        }
        int[] firstOf = {-1, -1};
        for (int i = 0; i < ways.length; i++) {
            int cell = up[i] ? 0 : 1;
            int low = 2 * cell;
            if (firstOf[cell] < 0) {
                firstOf[cell] = i;
                int goal = ranked.get(i).packet.goal;
                ways[i] = wanted(node, low, goal) || !wanted(node, low + 1, goal) ? low : low + 1;
            } else {
                ways[i] = ways[firstOf[cell]] == low ? low + 1 : low;
            }
        }
        return ways;
    }

    int take(int number) {
        if (!isNode(number)) {
            throw new IllegalArgumentException();
        }
        Node node = nodes[number];
        if (node.ready.isEmpty()) {
            throw new IllegalStateException();
        }
        node.taken = node.ready.remove(0);
        settle(node);
        return node.taken.packet.tag;
    }

    int taken(int number, int what) {
        if (!isNode(number) || what < 0 || what > 2 || nodes[number].taken == null) {
            return -1;
        }
        Ready taken = nodes[number].taken;
        return new int[] {taken.packet.source, taken.packet.length, taken.tryThen}[what];
    }

    int count(int what) {
        int[] all = {flits.size(), deflected, received, cycle, askedFor, turn};
        return what < 0 || what >= all.length ? -1 : all[what];
    }

    int used(Node node) {
        int used = 0;
        for (Packet packet : node.slots) {
            used += packet == null ? 0 : 1;
        }
        return used;
    }

    int node(int number, int what) {
        if (!isNode(number)) {
            return -1;
        }
        Node node = nodes[number];
        int places = 0;
        for (Place place : node.places) {
            places += place.packet == null ? 0 : 1;
        }
        int[] all = {node.waiting.size(), used(node), node.ready.size(), places, node.asked.size(),
            at(number).size(), node.out, hungryFor(number), node.again.size()};
        return what < 0 || what >= all.length ? -1 : all[what];
    }

    int golden(int what) {
        int g = goldenIndex();
        int[] all = {g / 64, g / 8 % 8, g % 8};
        return what < 0 || what >= all.length ? -1 : all[what];
    }

    int flit(int number, int line, int what) {
        for (Flit flit : flits) {
            if (flit.node == number && flit.line == line && what >= 0 && what <= 5) {
                Packet packet = flit.packet;
                return new int[] {packet.source, packet.slot, flit.number, packet.goal, flit.entry,
                    flit.tryThen}[what];
            }
        }
        return -1;
    }

    int distance(int a, int b) {
        return isNode(a) && isNode(b) ? d[a][b] : -1;
    }
}
