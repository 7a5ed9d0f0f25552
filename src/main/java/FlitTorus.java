/**
 * A torus of routers without any store between them: every flit that comes to a node leaves it in
 * the same cycle. The document's promises are numbered; the methods of the face name theirs.
 */
public final class FlitTorus {
    public static final int NONE = -1;

    private static final int LEAST_SIDE = 2;
    private static final int MOST_SIDE = 8;
    private static final int MOST_NODES = MOST_SIDE * MOST_SIDE;
    private static final int WAYS = 4;
    private static final int LEAST_OPEN_WAYS = 2;
    private static final int BY_RANK = 0;
    private static final int BY_CELLS = 1;
    private static final int MOST_PATIENCE = 1000;
    private static final int MOST_FLITS = 8;
    private static final int MOST_WAITING = 4;
    private static final int SLOTS = 8;
    private static final int PLACES = 4;
    private static final int MOST_READY = 4;
    private static final int MOST_LEAVING = 2;
    private static final int GOLDEN_MARGIN = 8;

    private final Router router;
    private final Grid grid;
    private final Rank rank;
    private final Node[] nodes;
    private int nodesMade;
    /** The packets whose note is on its way, in the order in which the notes were sent. */
    private final Row mail;
    private final Row sparePackets;
    private int mode;
    private int patience;
    /** The cycle to come; within cycle() the one that goes on. */
    private int now;
    private int turn;
    /** Packets that wait or are in a slot. */
    private int packets;
    private int flitsInNet;
    private int flitsDeflected;
    private int flitsReceived;
    private int packetsAsked;

    /** Promise 1. */
    public FlitTorus() {
        router = new Router();
        grid = router.grid;
        rank = router.rank;
        nodes = new Node[MOST_NODES];
        mail = new Row();
        sparePackets = new Row();
        reset(LEAST_SIDE, BY_RANK, 1);
    }

    /** Promise 2. */
    public boolean reset(int n, int mode, int patience) {
        if (n < LEAST_SIDE || n > MOST_SIDE || mode < BY_RANK || mode > BY_CELLS) {
            return false;
        }
        if (patience < 1 || patience > MOST_PATIENCE) {
            return false;
        }
        emptyAll();
        grid.lay(n);
        makeNodes();
        this.mode = mode;
        this.patience = patience;
        now = 0;
        turn = 0;
        packets = 0;
        flitsInNet = 0;
        flitsDeflected = 0;
        flitsReceived = 0;
        packetsAsked = 0;
        return true;
    }

    /** Promise 3. */
    public boolean link(int node, int way, boolean open) {
        if (!grid.hasNode(node) || way < 0 || way >= WAYS || mode == BY_CELLS) {
            return false;
        }
        // A note on its way, or a flit in the net, always has its packet in a slot.
        if (packets != 0 || grid.isOpen(node, way) == open) {
            return false;
        }
        if (open) {
            grid.setOpen(node, way, true);
            return true;
        }
        return grid.close(node, way);
    }

    /** Promise 4. */
    public boolean put(int node, int goal, int length, int tag) {
        if (!grid.hasNode(node) || !grid.hasNode(goal) || node == goal) {
            return false;
        }
        Row waiting = nodes[node].sender.waiting;
        if (length < 1 || length > MOST_FLITS || waiting.size >= MOST_WAITING) {
            return false;
        }
        Packet packet = sparePackets.removeFirst();
        if (packet == null) {
            packet = new Packet();
        }
        packet.fill(node, goal, length, tag);
        waiting.append(packet);
        packets++;
        return true;
    }

    /** Promise 5. */
    public int cycle() {
        tellNotes();
        rank.makeGolden(goldenIndex());
        for (int i = 0; i < grid.size; i++) {
            receiveAt(nodes[i]);
        }
        int starved = firstStarved();
        for (int i = 0; i < grid.size; i++) {
            enterAt(nodes[i], starved);
        }
        int moved = 0;
        for (int i = 0; i < grid.size; i++) {
            moved += moveFrom(nodes[i]);
        }
        for (int i = 0; i < grid.size; i++) {
            nodes[i].arrive();
        }
        now++;
        return moved;
    }

    /** Promise 6. */
    public int take(int node) throws IllegalArgumentException, IllegalStateException {
        if (!grid.hasNode(node)) {
            throw new IllegalArgumentException("no such node");
        }
        Receiver receiver = nodes[node].receiver;
        if (receiver.readyCount == 0) {
            throw new IllegalStateException("no packet is ready");
        }
        int tag = receiver.handOver();
        Place full = receiver.lowestFull();
        if (full != null) {
            finish(receiver, full);
        }
        return tag;
    }

    /** Promise 7. */
    public int taken(int node, int what) {
        if (!grid.hasNode(node)) {
            return NONE;
        }
        Receiver receiver = nodes[node].receiver;
        if (!receiver.hasHandedOver) {
            return NONE;
        }
        switch (what) {
            case 0:
                return receiver.last.source;
            case 1:
                return receiver.last.length;
            case 2:
                return receiver.last.attempt;
            default:
                return NONE;
        }
    }

    /** Promise 8. */
    public int count(int what) {
        switch (what) {
            case 0:
                return flitsInNet;
            case 1:
                return flitsDeflected;
            case 2:
                return flitsReceived;
            case 3:
                return now;
            case 4:
                return packetsAsked;
            case 5:
                return turn;
            default:
                return NONE;
        }
    }

    /** Promise 9. */
    public int node(int node, int what) {
        if (!grid.hasNode(node)) {
            return NONE;
        }
        Node it = nodes[node];
        switch (what) {
            case 0:
                return it.sender.waiting.size;
            case 1:
                return it.sender.slotsUsed;
            case 2:
                return it.receiver.readyCount;
            case 3:
                return it.receiver.placesUsed();
            case 4:
                return it.receiver.asked.size;
            case 5:
                return it.flitsHere();
            case 6:
                return it.wentOut;
            case 7:
                return it.sender.hungryCycles;
            case 8:
                return it.sender.again.size;
            default:
                return NONE;
        }
    }

    /** Promise 10. */
    public int golden(int what) {
        rank.makeGolden(goldenIndex());
        switch (what) {
            case 0:
                return rank.goldenSource;
            case 1:
                return rank.goldenSlot;
            case 2:
                return rank.goldenNumber;
            default:
                return NONE;
        }
    }

    /** Promise 11. */
    public int flit(int node, int line, int what) {
        if (!grid.hasNode(node) || line < 0 || line >= WAYS) {
            return NONE;
        }
        Flit flit = nodes[node].here[line];
        if (flit == null) {
            return NONE;
        }
        switch (what) {
            case 0:
                return flit.packet.source;
            case 1:
                return flit.packet.slot;
            case 2:
                return flit.number;
            case 3:
                return flit.packet.goal;
            case 4:
                return flit.entry;
            case 5:
                return flit.attempt;
            default:
                return NONE;
        }
    }

    /** Promise 12. */
    public int distance(int a, int b) {
        if (!grid.hasNode(a) || !grid.hasNode(b)) {
            return NONE;
        }
        return grid.steps(a, b);
    }

    private void emptyAll() {
        // The mail goes first: a packet has one link to a next one, which the spare row takes over.
        mail.clear();
        for (int i = 0; i < nodesMade; i++) {
            nodes[i].clear(sparePackets);
        }
    }

    /** Nodes are made when a net first needs them, so that small nets stay small. */
    private void makeNodes() {
        for (int i = nodesMade; i < grid.size; i++) {
            nodes[i] = new Node(i);
        }
        nodesMade = Math.max(nodesMade, grid.size);
    }

    private int goldenIndex() {
        int span = 2 * (grid.greatestSteps() + GOLDEN_MARGIN);
        return now / span % (grid.size * SLOTS * MOST_FLITS);
    }

    private void tellNotes() {
        int notes = mail.size;
        for (int i = 0; i < notes; i++) {
            Packet packet = mail.removeFirst();
            if (packet.noteDue > now) {
                mail.append(packet);
            } else {
                tell(packet);
            }
        }
    }

    private void tell(Packet packet) {
        Sender sender = nodes[packet.source].sender;
        if (packet.noteIsDone) {
            sender.free(packet);
            sparePackets.append(packet);
            packets--;
        } else {
            sender.goAgain(packet);
        }
    }

    private void sendNote(Packet packet, boolean isDone) {
        packet.noteIsDone = isDone;
        packet.noteDue = now + grid.steps(packet.goal, packet.source);
        mail.append(packet);
    }

    private void receiveAt(Node node) {
        for (int i = 0; i < MOST_LEAVING; i++) {
            int line = rank.highestForGoal(node.here, node.number);
            if (line == NONE) {
                return;
            }
            Flit flit = node.here[line];
            node.here[line] = null;
            flit.packet.flitsInNet--;
            flitsInNet--;
            flitsReceived++;
            receive(node.receiver, flit);
        }
    }

    private void receive(Receiver receiver, Flit flit) {
        Place place = receiver.placeFor(flit);
        if (place != null) {
            place.joined++;
            finish(receiver, place);
        } else if (!flit.packet.wasAsked) {
            flit.packet.wasAsked = true;
            receiver.asked.append(flit.packet);
            packetsAsked++;
        }
    }

    private void finish(Receiver receiver, Place place) {
        if (!place.isFull() || receiver.readyCount >= MOST_READY) {
            return;
        }
        Packet joined = place.packet;
        receiver.makeReady(joined, place.attempt);
        place.clear();
        sendNote(joined, true);
        // While packets are asked for no other place is empty, so this one is the lowest.
        Packet next = receiver.asked.removeFirst();
        if (next != null) {
            place.keepFor(next, next.attempt + 1);
            sendNote(next, false);
        }
    }

    private int firstStarved() {
        for (int i = 0; i < grid.size; i++) {
            int number = (turn + i) % grid.size;
            if (nodes[number].sender.hungryCycles >= patience) {
                return number;
            }
        }
        return NONE;
    }

    private void enterAt(Node node, int starved) {
        Sender sender = node.sender;
        Packet packet = sender.nextToEnter();
        if (packet == null) {
            sender.hungryCycles = 0;
            return;
        }
        boolean isHeldBack = starved != NONE && starved != node.number;
        if (isHeldBack || node.flitsHere() >= grid.openWays(node.number)) {
            sender.hungryCycles++;
            return;
        }
        node.add(sender.release(packet, now));
        flitsInNet++;
        sender.hungryCycles = 0;
        if (starved == node.number) {
            turn = (starved + 1) % grid.size;
        }
    }

    private int moveFrom(Node node) {
        if (node.flitsHere() == 0) {
            return 0;
        }
        if (mode == BY_RANK) {
            router.chooseByRank(node.here, node.number);
        } else {
            router.chooseByCells(node.here, node.number);
        }
        int moved = 0;
        for (int way = 0; way < WAYS; way++) {
            Flit flit = router.out[way];
            if (flit != null) {
                moved++;
                nodes[grid.beside(node.number, way)].coming[way] = flit;
                if (!grid.isWanted(node.number, way, flit.packet.goal)) {
                    flitsDeflected++;
                }
            }
        }
        node.wentOut += moved;
        return moved;
    }

    /** The links of the net, and the steps between its nodes. */
    private static final class Grid {
        int size;
        private final int[] besides = new int[MOST_NODES * WAYS];
        private final boolean[] opens = new boolean[MOST_NODES * WAYS];
        /** The steps to a goal stand together; they are counted when first asked for. */
        private final int[] stepsTo = new int[MOST_NODES * MOST_NODES];
        private final boolean[] isCounted = new boolean[MOST_NODES];
        private final int[] reached = new int[MOST_NODES];
        /** NONE while it has not been looked for since the links changed. */
        private int greatest;

        void lay(int n) {
            size = n * n;
            for (int node = 0; node < size; node++) {
                int x = node % n;
                int y = node / n;
                besides[node * WAYS] = y * n + (x + 1) % n;
                besides[node * WAYS + 1] = y * n + (x + n - 1) % n;
                besides[node * WAYS + 2] = (y + 1) % n * n + x;
                besides[node * WAYS + 3] = (y + n - 1) % n * n + x;
                for (int way = 0; way < WAYS; way++) {
                    opens[node * WAYS + way] = true;
                }
            }
            forgetSteps();
        }

        boolean hasNode(int node) {
            return node >= 0 && node < size;
        }

        int beside(int node, int way) {
            return besides[node * WAYS + way];
        }

        boolean isOpen(int node, int way) {
            return opens[node * WAYS + way];
        }

        int openWays(int node) {
            int open = 0;
            for (int way = 0; way < WAYS; way++) {
                if (isOpen(node, way)) {
                    open++;
                }
            }
            return open;
        }

        void setOpen(int node, int way, boolean open) {
            opens[node * WAYS + way] = open;
            opens[beside(node, way) * WAYS + wayBack(way)] = open;
            forgetSteps();
        }

        boolean close(int node, int way) {
            int other = beside(node, way);
            if (openWays(node) <= LEAST_OPEN_WAYS || openWays(other) <= LEAST_OPEN_WAYS) {
                return false;
            }
            setOpen(node, way, false);
            // The net was whole before, so it falls apart only between the link's two ends.
            if (steps(node, other) == NONE) {
                setOpen(node, way, true);
                return false;
            }
            return true;
        }

        int steps(int from, int goal) {
            if (!isCounted[goal]) {
                countStepsTo(goal);
            }
            return stepsTo[goal * MOST_NODES + from];
        }

        boolean isWanted(int node, int way, int goal) {
            return isOpen(node, way) && steps(beside(node, way), goal) < steps(node, goal);
        }

        int greatestSteps() {
            if (greatest == NONE) {
                for (int goal = 0; goal < size; goal++) {
                    for (int from = 0; from < size; from++) {
                        greatest = Math.max(greatest, steps(from, goal));
                    }
                }
            }
            return greatest;
        }

        private void forgetSteps() {
            for (int goal = 0; goal < size; goal++) {
                isCounted[goal] = false;
            }
            greatest = NONE;
        }

        private void countStepsTo(int goal) {
            int first = goal * MOST_NODES;
            for (int node = 0; node < size; node++) {
                stepsTo[first + node] = NONE;
            }
            stepsTo[first + goal] = 0;
            reached[0] = goal;
            int found = 1;
            for (int i = 0; i < found && i < size; i++) {
                int node = reached[i];
                for (int way = 0; way < WAYS; way++) {
                    int next = besides[node * WAYS + way];
                    if (opens[node * WAYS + way] && stepsTo[first + next] == NONE) {
                        stepsTo[first + next] = stepsTo[first + node] + 1;
                        reached[found] = next;
                        found++;
                    }
                }
            }
            isCounted[goal] = true;
        }

        private static int wayBack(int way) {
            return way % 2 == 0 ? way + 1 : way - 1;
        }
    }

    private static final class Flit {
        final Packet packet;
        final int number;
        int entry;
        /** Kept for each flit: flits of the first try may still go round when the packet's second begins. */
        int attempt;

        Flit(Packet packet, int number) {
            this.packet = packet;
            this.number = number;
        }
    }

    private static final class Packet {
        int source;
        int goal;
        int length;
        int tag;
        int slot;
        int attempt;
        /** How many flits have entered in this try. */
        int entered;
        int flitsInNet;
        boolean wasAsked;
        boolean noteIsDone;
        int noteDue;
        /** One link is enough: a packet waits, is asked for, has a note on its way or goes again. */
        Packet next;
        /** Those that any packet of this object has needed so far; they serve again. */
        final Flit[] flits = new Flit[MOST_FLITS];

        void fill(int source, int goal, int length, int tag) {
            this.source = source;
            this.goal = goal;
            this.length = length;
            this.tag = tag;
            slot = NONE;
            attempt = 1;
            entered = 0;
            flitsInNet = 0;
            wasAsked = false;
            makeFlits();
        }

        private void makeFlits() {
            for (int i = 0; i < length && i < MOST_FLITS; i++) {
                if (flits[i] == null) {
                    flits[i] = new Flit(this, i);
                }
            }
        }
    }

    /** Packets in their order. */
    private static final class Row {
        Packet first;
        int size;
        private Packet last;

        void append(Packet packet) {
            packet.next = null;
            if (last == null) {
                first = packet;
            } else {
                last.next = packet;
            }
            last = packet;
            size++;
        }

        Packet removeFirst() {
            Packet packet = first;
            if (packet == null) {
                return null;
            }
            first = packet.next;
            if (first == null) {
                last = null;
            }
            packet.next = null;
            size--;
            return packet;
        }

        void clear() {
            first = null;
            last = null;
            size = 0;
        }
    }

    private static final class Node {
        final int number;
        final Sender sender = new Sender();
        final Receiver receiver = new Receiver();
        /** The flits by their lines. */
        Flit[] here = new Flit[WAYS];
        Flit[] coming = new Flit[WAYS];
        int wentOut;

        Node(int number) {
            this.number = number;
        }

        void clear(Row sparePackets) {
            sender.clear(sparePackets);
            receiver.clear();
            for (int line = 0; line < WAYS; line++) {
                here[line] = null;
                coming[line] = null;
            }
            wentOut = 0;
        }

        int flitsHere() {
            int flits = 0;
            for (int line = 0; line < WAYS; line++) {
                if (here[line] != null) {
                    flits++;
                }
            }
            return flits;
        }

        void add(Flit flit) {
            for (int line = 0; line < WAYS; line++) {
                if (here[line] == null) {
                    here[line] = flit;
                    return;
                }
            }
        }

        void arrive() {
            Flit[] gone = here;
            here = coming;
            coming = gone;
            for (int line = 0; line < WAYS; line++) {
                gone[line] = null;
            }
        }
    }

    /** A node as the source of packets. */
    private static final class Sender {
        final Row waiting = new Row();
        final Row again = new Row();
        int slotsUsed;
        int hungryCycles;
        private final Packet[] slots = new Packet[SLOTS];
        private Packet underWay;

        void clear(Row sparePackets) {
            again.clear();
            underWay = null;
            Packet packet = waiting.removeFirst();
            while (packet != null) {
                sparePackets.append(packet);
                packet = waiting.removeFirst();
            }
            for (int slot = 0; slot < SLOTS; slot++) {
                if (slots[slot] != null) {
                    sparePackets.append(slots[slot]);
                    slots[slot] = null;
                }
            }
            slotsUsed = 0;
            hungryCycles = 0;
        }

        /** The packet whose flit could enter, or null. */
        Packet nextToEnter() {
            if (underWay != null) {
                return underWay;
            }
            if (again.first != null && again.first.flitsInNet == 0) {
                return again.first;
            }
            return slotsUsed < SLOTS ? waiting.first : null;
        }

        /** The next flit of the packet that nextToEnter told. */
        Flit release(Packet packet, int cycle) {
            if (packet == again.first) {
                again.removeFirst();
            } else if (packet == waiting.first) {
                waiting.removeFirst();
                occupySlot(packet);
            }
            Flit flit = packet.flits[packet.entered];
            flit.entry = cycle;
            flit.attempt = packet.attempt;
            packet.entered++;
            packet.flitsInNet++;
            underWay = packet.entered < packet.length ? packet : null;
            return flit;
        }

        void free(Packet packet) {
            slots[packet.slot] = null;
            slotsUsed--;
        }

        void goAgain(Packet packet) {
            packet.attempt++;
            packet.entered = 0;
            again.append(packet);
            // What had not entered in the try before is not sent any more in this one.
            if (underWay == packet) {
                underWay = null;
            }
        }

        private void occupySlot(Packet packet) {
            for (int slot = 0; slot < SLOTS; slot++) {
                if (slots[slot] == null) {
                    slots[slot] = packet;
                    packet.slot = slot;
                    slotsUsed++;
                    return;
                }
            }
        }
    }

    /** A node as the goal of packets. */
    private static final class Receiver {
        final Row asked = new Row();
        int readyCount;
        /** The packet taken last, if there was one. */
        Arrival last = new Arrival();
        boolean hasHandedOver;
        private final Place[] places = new Place[PLACES];
        private final Arrival[] ready = new Arrival[MOST_READY];

        Receiver() {
            for (int i = 0; i < PLACES; i++) {
                places[i] = new Place();
            }
            for (int i = 0; i < MOST_READY; i++) {
                ready[i] = new Arrival();
            }
        }

        void clear() {
            asked.clear();
            readyCount = 0;
            hasHandedOver = false;
            for (int i = 0; i < PLACES; i++) {
                places[i].clear();
            }
        }

        /** The place for which a flit counts, or null if it is lost. */
        Place placeFor(Flit flit) {
            for (int i = 0; i < PLACES; i++) {
                if (places[i].packet == flit.packet && places[i].attempt == flit.attempt) {
                    return places[i];
                }
            }
            if (flit.attempt != 1 || flit.packet.wasAsked) {
                return null;
            }
            for (int i = 0; i < PLACES; i++) {
                if (places[i].packet == null) {
                    places[i].keepFor(flit.packet, flit.attempt);
                    return places[i];
                }
            }
            return null;
        }

        Place lowestFull() {
            for (int i = 0; i < PLACES; i++) {
                if (places[i].isFull()) {
                    return places[i];
                }
            }
            return null;
        }

        int placesUsed() {
            int used = 0;
            for (int i = 0; i < PLACES; i++) {
                if (places[i].packet != null) {
                    used++;
                }
            }
            return used;
        }

        void makeReady(Packet packet, int attempt) {
            Arrival arrival = ready[readyCount];
            // The packet itself may serve again while its arrival is still here.
            arrival.source = packet.source;
            arrival.length = packet.length;
            arrival.attempt = attempt;
            arrival.tag = packet.tag;
            readyCount++;
        }

        /** The first ready one becomes the last taken, whose object serves again. */
        int handOver() {
            Arrival first = ready[0];
            for (int i = 1; i < MOST_READY; i++) {
                ready[i - 1] = ready[i];
            }
            ready[MOST_READY - 1] = last;
            last = first;
            hasHandedOver = true;
            readyCount--;
            return first.tag;
        }
    }

    /** Where a packet's flits are joined; without a packet it is empty. */
    private static final class Place {
        Packet packet;
        int attempt;
        int joined;

        void keepFor(Packet packet, int attempt) {
            this.packet = packet;
            this.attempt = attempt;
            joined = 0;
        }

        boolean isFull() {
            return packet != null && joined >= packet.length;
        }

        void clear() {
            packet = null;
        }
    }

    /** A packet that is ready, or was taken. */
    private static final class Arrival {
        int source;
        int length;
        int attempt;
        int tag;
    }

    private static final class Rank {
        int goldenSource;
        int goldenSlot;
        int goldenNumber;

        void makeGolden(int index) {
            goldenNumber = index % MOST_FLITS;
            goldenSlot = index / MOST_FLITS % SLOTS;
            goldenSource = index / MOST_FLITS / SLOTS;
        }

        /** The higher one; one of them, or both, may be null. */
        Flit higher(Flit a, Flit b) {
            if (a == null || b == null) {
                return a == null ? b : a;
            }
            return isHigher(a, b) ? a : b;
        }

        boolean isHigher(Flit a, Flit b) {
            if (isGolden(a) || isGolden(b)) {
                return isGolden(a);
            }
            if (a.entry != b.entry) {
                return a.entry < b.entry;
            }
            if (a.packet.source != b.packet.source) {
                return a.packet.source < b.packet.source;
            }
            if (a.packet.slot != b.packet.slot) {
                return a.packet.slot < b.packet.slot;
            }
            return a.number < b.number;
        }

        /** The line of the highest flit for a goal, or NONE. */
        int highestForGoal(Flit[] lines, int goal) {
            int highest = NONE;
            for (int line = 0; line < WAYS; line++) {
                Flit flit = lines[line];
                if (flit != null && flit.packet.goal == goal
                        && (highest == NONE || isHigher(flit, lines[highest]))) {
                    highest = line;
                }
            }
            return highest;
        }

        private boolean isGolden(Flit flit) {
            return flit.number == goldenNumber && flit.packet.slot == goldenSlot
                    && flit.packet.source == goldenSource;
        }
    }

    /** Finds the way of each flit at a node. */
    private static final class Router {
        /** The flits by the ways that they got. */
        final Flit[] out = new Flit[WAYS];
        final Grid grid = new Grid();
        final Rank rank = new Rank();
        private final Flit[] ranked = new Flit[WAYS];
        /** Behind the first two cells: the two that went up, then the two that went down. */
        private final Flit[] middle = new Flit[WAYS];

        void chooseByRank(Flit[] here, int node) {
            for (int way = 0; way < WAYS; way++) {
                out[way] = null;
            }
            int flits = sortByRank(here);
            for (int i = 0; i < flits; i++) {
                int way = bestWayLeft(node, ranked[i].packet.goal);
                if (way != NONE) {
                    out[way] = ranked[i];
                }
            }
        }

        void chooseByCells(Flit[] here, int node) {
            passFirstCell(node, here[0], here[1], 0);
            passFirstCell(node, here[2], here[3], 1);
            passLastCell(node, middle[0], middle[1], 0);
            passLastCell(node, middle[2], middle[3], 2);
        }

        private int sortByRank(Flit[] here) {
            int flits = 0;
            for (int line = 0; line < WAYS; line++) {
                Flit flit = here[line];
                if (flit != null) {
                    int at = flits;
                    while (at > 0 && rank.isHigher(flit, ranked[at - 1])) {
                        ranked[at] = ranked[at - 1];
                        at--;
                    }
                    ranked[at] = flit;
                    flits++;
                }
            }
            return flits;
        }

        private int bestWayLeft(int node, int goal) {
            int lowestLeft = NONE;
            for (int way = 0; way < WAYS; way++) {
                if (out[way] == null && grid.isOpen(node, way)) {
                    if (grid.isWanted(node, way, goal)) {
                        return way;
                    }
                    if (lowestLeft == NONE) {
                        lowestLeft = way;
                    }
                }
            }
            return lowestLeft;
        }

        private void passFirstCell(int node, Flit a, Flit b, int up) {
            Flit high = rank.higher(a, b);
            Flit low = high == a ? b : a;
            boolean goesUp = high != null
                    && (grid.isWanted(node, 0, high.packet.goal) || grid.isWanted(node, 1, high.packet.goal));
            middle[up] = goesUp ? high : low;
            middle[up + 2] = goesUp ? low : high;
        }

        private void passLastCell(int node, Flit a, Flit b, int way) {
            Flit high = rank.higher(a, b);
            Flit low = high == a ? b : a;
            boolean getsLower = high == null || grid.isWanted(node, way, high.packet.goal)
                    || !grid.isWanted(node, way + 1, high.packet.goal);
            out[way] = getsLower ? high : low;
            out[way + 1] = getsLower ? low : high;
        }
    }
}
