import java.util.Arrays;

/**
 * Bridges joined in rings: each ring is kept from being a circle for data by a link that has
 * failed or a port that is blocked, and heals by casts that go round.
 */
public final class RingGuard {
    public static final int NONE = -1;

    private static final int MOST_BRIDGES = 48;
    private static final int MOST_LINKS = 60;
    private static final int RINGS = 6;
    private static final int HOSTS = 64;
    private static final int TAGS = 4;

    /** Port 2 * link is that of the link's first bridge, 2 * link + 1 that of its second one. */
    private static final int PORTS = 2 * MOST_LINKS;
    /** A place is a bridge in a ring: bridge * RINGS + ring. */
    private static final int PLACES = MOST_BRIDGES * RINGS;

    private static final int DOWN_HOLD = 1;
    private static final int FORCED_HOLD = 2;
    private static final int MANUAL_HOLD = 4;
    private static final int WAITING_HOLD = 8;
    private static final int OWNER_HOLD = 16;
    private static final int COMMAND_HOLDS = FORCED_HOLD | MANUAL_HOLD;
    private static final int ACTIVE_HOLDS = DOWN_HOLD | COMMAND_HOLDS;

    private static final int MOST_TO_LOSE = 1000;
    private static final int MOST_TICKS_A_CALL = 200;
    private static final int MOST_TICKS = 20000;

    private final Plan plan;
    private final Wires wires;
    private final Tables tables;
    private final Protocol protocol;
    private final Frames frames;
    private final Groups groups;
    private boolean started;
    private int ticksInAll;
    private int calmTicks;
    private int stirsSeen;
    private boolean circleNow;
    private int circleCount;
    private int apartCount;

    public RingGuard() {
        plan = new Plan();
        wires = new Wires();
        tables = new Tables();
        protocol = new Protocol(plan, wires, tables);
        frames = new Frames(plan, protocol, tables);
        groups = new Groups();
    }

    public int bridge() throws IllegalStateException {
        requireNotStarted();
        if (plan.bridgeCount >= MOST_BRIDGES) {
            throw new IllegalStateException("there are 48 bridges");
        }
        int number = plan.bridgeCount;
        plan.bridgeCount = number + 1;
        return number;
    }

    public int link(int first, int second, int ring) throws IllegalArgumentException, IllegalStateException {
        requireBridge(first);
        requireBridge(second);
        requireRing(ring);
        if (first == second) {
            throw new IllegalArgumentException("a link joins two bridges");
        }
        requireNotStarted();
        if (plan.linkCount >= MOST_LINKS) {
            throw new IllegalStateException("there are 60 links");
        }
        return plan.addLink(first, second, ring);
    }

    public void owner(int ring, int bridge, int link) throws IllegalArgumentException, IllegalStateException {
        requireRing(ring);
        requireBridge(bridge);
        requireLink(link);
        requireNotStarted();
        plan.ownerBridge[ring] = bridge;
        plan.ownerLink[ring] = link;
    }

    public int start() throws IllegalStateException {
        requireNotStarted();
        int fault = plan.firstFault(groups);
        if (fault == 0) {
            started = true;
            plan.layPorts();
            protocol.takeAllHolds();
        }
        return fault;
    }

    public boolean fail(int link) throws IllegalArgumentException, IllegalStateException {
        requireLink(link);
        requireStarted();
        boolean had = protocol.hasFailed(link);
        if (!had) {
            protocol.breakLink(link);
        }
        countCircle();
        return !had;
    }

    public boolean heal(int link) throws IllegalArgumentException, IllegalStateException {
        requireLink(link);
        requireStarted();
        boolean had = protocol.hasFailed(link);
        if (had) {
            protocol.mendLink(link);
        }
        countCircle();
        return had;
    }

    public int lose(int link, int n) throws IllegalArgumentException, IllegalStateException {
        requireLink(link);
        if (n < 0 || n > MOST_TO_LOSE) {
            throw new IllegalArgumentException("n is not 0 .. 1000");
        }
        requireStarted();
        int before = wires.toLose[link];
        wires.toLose[link] = n;
        return before;
    }

    public boolean order(int bridge, int link, boolean forced) throws IllegalArgumentException, IllegalStateException {
        requirePort(bridge, link);
        requireStarted();
        boolean isNew = protocol.giveCommand(plan.portOf(bridge, link), forced ? FORCED_HOLD : MANUAL_HOLD);
        countCircle();
        return isNew;
    }

    public boolean clear(int bridge, int ring) throws IllegalArgumentException, IllegalStateException {
        requireBridge(bridge);
        requireRing(ring);
        requireStarted();
        boolean had = protocol.endCommand(bridge * RINGS + ring);
        countCircle();
        return had;
    }

    public int ticks(int n) throws IllegalArgumentException, IllegalStateException {
        if (n < 1 || n > MOST_TICKS_A_CALL) {
            throw new IllegalArgumentException("n is not 1 .. 200");
        }
        requireStarted();
        if (ticksInAll + n > MOST_TICKS) {
            throw new IllegalStateException("there are 20000 ticks at most");
        }
        for (int i = 0; i < n; i++) {
            int stirsBefore = countStirs();
            if (stirsBefore != stirsSeen) {
                calmTicks = 0;
            }
            ticksInAll++;
            protocol.arriveAll();
            protocol.turnAll();
            stirsSeen = countStirs();
            calmTicks = stirsSeen == stirsBefore ? calmTicks + 1 : 0;
            countCircle();
            countApart();
        }
        return ticksInAll;
    }

    public int host(int host, int bridge) throws IllegalArgumentException, IllegalStateException {
        requireHost(host);
        requireBridge(bridge);
        requireStarted();
        int before = frames.bridgeOfHost[host];
        frames.bridgeOfHost[host] = bridge;
        tables.forgetHost(host);
        return before;
    }

    public int send(int from, int to, int tag) throws IllegalArgumentException, IllegalStateException {
        requireHost(from);
        requireHost(to);
        requireTag(tag);
        if (from == to || frames.bridgeOfHost[from] == NONE || frames.bridgeOfHost[to] == NONE) {
            throw new IllegalArgumentException("a frame goes between two hosts that are somewhere");
        }
        requireStarted();
        return frames.carry(from, to, tag, ticksInAll);
    }

    public int visits() {
        return frames.mostPasses;
    }

    public int holds(int bridge, int link) throws IllegalArgumentException {
        requirePort(bridge, link);
        return protocol.holdsOf[plan.portOf(bridge, link)];
    }

    public int told(int bridge, int ring, int what) throws IllegalArgumentException {
        requireBridge(bridge);
        requireRing(ring);
        switch (what) {
            case 0:
                return protocol.flushCount[bridge];
            case 1:
                return protocol.guard[bridge * RINGS + ring];
            case 2:
                return protocol.clock[ring];
            default:
                throw new IllegalArgumentException("what is not 0 .. 2");
        }
    }

    public int learned(int bridge, int tag, int host) throws IllegalArgumentException {
        requireBridge(bridge);
        requireTag(tag);
        requireHost(host);
        return tables.linkTo(bridge, tag, host, ticksInAll);
    }

    public boolean joined(int a, int b) throws IllegalArgumentException {
        requireBridge(a);
        requireBridge(b);
        groupByOpenLinks();
        return groups.group[a] == groups.group[b];
    }

    public int casts() {
        return wires.countOnLinks();
    }

    public int lost() {
        return wires.lostCount;
    }

    public int circles() {
        return circleCount;
    }

    public int apart() {
        return apartCount;
    }

    private void requireNotStarted() {
        if (started) {
            throw new IllegalStateException("started already");
        }
    }

    private void requireStarted() {
        if (!started) {
            throw new IllegalStateException("not started yet");
        }
    }

    private void requireBridge(int bridge) {
        if (bridge < 0 || bridge >= plan.bridgeCount) {
            throw new IllegalArgumentException("no such bridge");
        }
    }

    private void requireLink(int link) {
        if (link < 0 || link >= plan.linkCount) {
            throw new IllegalArgumentException("no such link");
        }
    }

    private void requirePort(int bridge, int link) {
        requireBridge(bridge);
        requireLink(link);
        if (plan.portOf(bridge, link) == NONE) {
            throw new IllegalArgumentException("the bridge is at no end of the link");
        }
    }

    private void requireRing(int ring) {
        if (ring < 0 || ring >= RINGS) {
            throw new IllegalArgumentException("no such ring");
        }
    }

    private void requireHost(int host) {
        if (host < 0 || host >= HOSTS) {
            throw new IllegalArgumentException("no such host");
        }
    }

    private void requireTag(int tag) {
        if (tag < 0 || tag >= TAGS) {
            throw new IllegalArgumentException("no such tag");
        }
    }

    /** What may keep bridges apart for a while: it starts the count of calm ticks anew. */
    private int countStirs() {
        return protocol.stirs + wires.lostCount;
    }

    private void groupByOpenLinks() {
        groups.separate(plan.bridgeCount);
        circleNow = false;
        for (int link = 0; link < plan.linkCount; link++) {
            if (protocol.isOpen(link) && !groups.join(plan.firstOf[link], plan.secondOf[link])) {
                circleNow = true;
            }
        }
    }

    private void countCircle() {
        // Most ticks change no hold: the groups of the last time still stand then.
        if (protocol.holdsChanged) {
            groupByOpenLinks();
            protocol.holdsChanged = false;
        }
        if (circleNow) {
            circleCount++;
        }
    }

    /** Looks at the groups as countCircle() left them. */
    private void countApart() {
        if (groups.groupCount > 1 && calmTicks >= 4 * plan.bridgeCount + 80
                && !protocol.hasAnyCommand() && !protocol.hasRingWithTwoFailures()) {
            apartCount++;
        }
    }

    /** Bridges in groups, of which two at a time are made one. */
    private static final class Groups {
        final int[] group = new int[MOST_BRIDGES];
        int groupCount;
        private int size;

        void separate(int bridges) {
            size = bridges;
            groupCount = bridges;
            for (int bridge = 0; bridge < bridges; bridge++) {
                group[bridge] = bridge;
            }
        }

        /** Whether they were in two groups till now. */
        boolean join(int a, int b) {
            int kept = group[a];
            int gone = group[b];
            if (kept == gone) {
                return false;
            }
            for (int bridge = 0; bridge < size; bridge++) {
                if (group[bridge] == gone) {
                    group[bridge] = kept;
                }
            }
            groupCount--;
            return true;
        }
    }

    /** Bridges, links, rings and owners, which stay as they are from the start on. */
    private static final class Plan {
        private static final int NO_LINKS = 7;

        int bridgeCount;
        int linkCount;
        final int[] firstOf = new int[MOST_LINKS];
        final int[] secondOf = new int[MOST_LINKS];
        final int[] ringOf = new int[MOST_LINKS];
        final int[] ownerBridge = new int[RINGS];
        final int[] ownerLink = new int[RINGS];
        final int[] placeOf = new int[PORTS];
        /** From the start on, as portsAt. */
        final int[] ownerPort = new int[RINGS];
        /** At 2 * place the place's port with the lesser link, then the other one, or NONE. */
        final int[] portsAt = new int[2 * PLACES];
        private final boolean[] closedRing = new boolean[RINGS];

        Plan() {
            Arrays.fill(ownerBridge, NONE);
            Arrays.fill(ownerLink, NONE);
            Arrays.fill(ownerPort, NONE);
            Arrays.fill(portsAt, NONE);
        }

        int addLink(int first, int second, int ring) {
            int link = linkCount;
            firstOf[link] = first;
            secondOf[link] = second;
            ringOf[link] = ring;
            placeOf[2 * link] = first * RINGS + ring;
            placeOf[2 * link + 1] = second * RINGS + ring;
            linkCount = link + 1;
            return link;
        }

        int portOf(int bridge, int link) {
            if (firstOf[link] == bridge) {
                return 2 * link;
            }
            return secondOf[link] == bridge ? 2 * link + 1 : NONE;
        }

        int otherPort(int port) {
            int at = 2 * placeOf[port];
            return portsAt[at] == port ? portsAt[at + 1] : portsAt[at];
        }

        boolean isOwner(int place) {
            return ownerBridge[place % RINGS] == place / RINGS;
        }

        /** A start that was accepted gave each place two ports at most. */
        void layPorts() {
            for (int port = 0; port < 2 * linkCount; port++) {
                int at = 2 * placeOf[port];
                portsAt[portsAt[at] == NONE ? at : at + 1] = port;
            }
            for (int ring = 0; ring < RINGS; ring++) {
                ownerPort[ring] = hasLinks(ring) ? portOf(ownerBridge[ring], ownerLink[ring]) : NONE;
            }
        }

        int firstFault(Groups groups) {
            if (linkCount == 0 || hasBareBridge()) {
                return NO_LINKS;
            }
            boolean isFirst = true;
            for (int ring = 0; ring < RINGS; ring++) {
                if (!hasLinks(ring)) {
                    continue;
                }
                if (!hasRightShape(ring, isFirst, groups) || !hasRightOwner(ring)) {
                    return 1 + ring;
                }
                isFirst = false;
            }
            return 0;
        }

        private boolean hasLinks(int ring) {
            for (int link = 0; link < linkCount; link++) {
                if (ringOf[link] == ring) {
                    return true;
                }
            }
            return false;
        }

        private boolean hasBareBridge() {
            for (int bridge = 0; bridge < bridgeCount; bridge++) {
                if (!isInRingBefore(bridge, RINGS)) {
                    return true;
                }
            }
            return false;
        }

        private boolean isInRingBefore(int bridge, int ring) {
            for (int link = 0; link < linkCount; link++) {
                if (ringOf[link] < ring && portOf(bridge, link) != NONE) {
                    return true;
                }
            }
            return false;
        }

        private int countLinks(int bridge, int ring) {
            int count = 0;
            for (int link = 0; link < linkCount; link++) {
                if (ringOf[link] == ring && portOf(bridge, link) != NONE) {
                    count++;
                }
            }
            return count;
        }

        private boolean hasRightOwner(int ring) {
            int link = ownerLink[ring];
            return link != NONE && ringOf[link] == ring && portOf(ownerBridge[ring], link) != NONE;
        }

        private boolean hasRightShape(int ring, boolean isFirst, Groups groups) {
            int members = 0;
            int ends = 0;
            int shared = 0;
            for (int bridge = 0; bridge < bridgeCount; bridge++) {
                int links = countLinks(bridge, ring);
                if (links > 2) {
                    return false;
                }
                members += links > 0 ? 1 : 0;
                ends += links == 1 ? 1 : 0;
                shared += links > 0 && isInRingBefore(bridge, ring) ? 1 : 0;
            }
            if (members < 3 || !isOnePiece(ring, members, groups)) {
                return false;
            }
            closedRing[ring] = ends == 0;
            if (ends == 0) {
                return shared == (isFirst ? 0 : 1);
            }
            // A chain's two ends are in a closed ring: so no inner bridge is among the two shared.
            return shared == 2 && isHeldByClosedRing(ring);
        }

        private boolean isOnePiece(int ring, int members, Groups groups) {
            groups.separate(bridgeCount);
            for (int link = 0; link < linkCount; link++) {
                if (ringOf[link] == ring) {
                    groups.join(firstOf[link], secondOf[link]);
                }
            }
            return groups.groupCount == bridgeCount - members + 1;
        }

        private boolean isHeldByClosedRing(int subRing) {
            for (int ring = 0; ring < subRing; ring++) {
                if (closedRing[ring] && hasEndsOf(ring, subRing)) {
                    return true;
                }
            }
            return false;
        }

        private boolean hasEndsOf(int ring, int subRing) {
            for (int bridge = 0; bridge < bridgeCount; bridge++) {
                if (countLinks(bridge, subRing) == 1 && countLinks(bridge, ring) == 0) {
                    return false;
                }
            }
            return true;
        }
    }

    /** Casts as they lie on links: a lane bears the number of the port where its casts arrive. */
    private static final class Wires {
        private static final int LANE_SIZE = 64;

        /** Two rows each, so that a cast goes over one link only in a tick. */
        private int[] arriving = new int[PORTS * LANE_SIZE];
        private int[] arrivingCount = new int[PORTS];
        private int[] leaving = new int[PORTS * LANE_SIZE];
        private int[] leavingCount = new int[PORTS];
        final int[] toLose = new int[MOST_LINKS];
        int lostCount;

        void put(int lane, int cast) {
            int count = leavingCount[lane];
            if (count >= LANE_SIZE) {
                lostCount++;
                return;
            }
            leaving[lane * LANE_SIZE + count] = cast;
            leavingCount[lane] = count + 1;
        }

        void turn() {
            int[] row = arriving;
            arriving = leaving;
            leaving = row;
            int[] counts = arrivingCount;
            arrivingCount = leavingCount;
            leavingCount = counts;
            Arrays.fill(leavingCount, 0);
        }

        int countArriving(int lane) {
            return arrivingCount[lane];
        }

        int arrivingCast(int lane, int index) {
            return arriving[lane * LANE_SIZE + index];
        }

        /** Whether the cast that arrives over the link just now is lost. */
        boolean losesOne(int link) {
            if (toLose[link] == 0) {
                return false;
            }
            toLose[link]--;
            lostCount++;
            return true;
        }

        int countOnLinks() {
            int count = 0;
            for (int lane = 0; lane < PORTS; lane++) {
                count += leavingCount[lane];
            }
            return count;
        }
    }

    /** What bridges learned: over which link a host is, and when they learned it. */
    private static final class Tables {
        private static final int KNOWN_TICKS = 300;

        /** An entry is when * MOST_LINKS + link, or NONE; a bridge's row goes tag by tag. */
        private final int[][] entries = new int[MOST_BRIDGES][TAGS * HOSTS];

        Tables() {
            for (int bridge = 0; bridge < MOST_BRIDGES; bridge++) {
                Arrays.fill(entries[bridge], NONE);
            }
        }

        void learn(int bridge, int tag, int host, int link, int now) {
            entries[bridge][tag * HOSTS + host] = now * MOST_LINKS + link;
        }

        int linkTo(int bridge, int tag, int host, int now) {
            int entry = entries[bridge][tag * HOSTS + host];
            if (entry == NONE || now - entry / MOST_LINKS >= KNOWN_TICKS) {
                return NONE;
            }
            return entry % MOST_LINKS;
        }

        void forgetAll(int bridge) {
            Arrays.fill(entries[bridge], NONE);
        }

        void forgetHost(int host) {
            for (int bridge = 0; bridge < MOST_BRIDGES; bridge++) {
                for (int tag = 0; tag < TAGS; tag++) {
                    entries[bridge][tag * HOSTS + host] = NONE;
                }
            }
        }
    }

    /** A cast as one number, so that a lane is a row of numbers. */
    private static final class Cast {
        static final int FAIL = 0;
        static final int FORCED = 1;
        static final int MANUAL = 2;
        static final int HEALED = 3;
        static final int DONE = 4;
        static final int FLUSH = 5;
        static final int SILENCE = -1;

        static final int COMMAND_NAMES = 60;
        static final int DONE_NAMES = 108;
        static final int NAMES = DONE_NAMES + RINGS;

        static int of(int kind, int source, int name, int number) {
            return number << 16 | name << 9 | source << 3 | kind;
        }

        static int kindOf(int cast) {
            return cast & 7;
        }

        static int sourceOf(int cast) {
            return cast >> 3 & 63;
        }

        static int nameOf(int cast) {
            return cast >> 9 & 127;
        }

        static int numberOf(int cast) {
            return cast >>> 16;
        }
    }

    /** Holds, guards and clocks, and how bridges change them and tell one another. */
    private static final class Protocol {
        private static final int CLOCK_TICKS = 60;

        private final Plan plan;
        private final Wires wires;
        private final Tables tables;
        final int[] holdsOf = new int[PORTS];
        final int[] guard = new int[PLACES];
        private final int[] phase = new int[PLACES];
        final int[] clock = new int[RINGS];
        private final int[] timesTaken = new int[RINGS];
        private final int[] timesFailed = new int[MOST_LINKS];
        private final int[] timesCommanded = new int[MOST_BRIDGES];
        private final int[] greatestTold = new int[MOST_BRIDGES * Cast.NAMES];
        final int[] flushCount = new int[MOST_BRIDGES];
        /** How often a link failed or became well, or a command was given or ended. */
        int stirs;
        boolean holdsChanged = true;

        Protocol(Plan plan, Wires wires, Tables tables) {
            this.plan = plan;
            this.wires = wires;
            this.tables = tables;
        }

        boolean hasFailed(int link) {
            return isDown(2 * link);
        }

        boolean isOpen(int link) {
            return holdsOf[2 * link] == 0 && holdsOf[2 * link + 1] == 0;
        }

        private boolean isDown(int port) {
            return (holdsOf[port] & DOWN_HOLD) != 0;
        }

        void takeAllHolds() {
            for (int ring = 0; ring < RINGS; ring++) {
                if (plan.ownerPort[ring] != NONE) {
                    takeHold(ring);
                }
            }
        }

        private void takeHold(int ring) {
            int port = plan.ownerPort[ring];
            setHolds(port, holdsOf[port] | OWNER_HOLD);
            timesTaken[ring]++;
            takeNews(plan.placeOf[port], Cast.DONE_NAMES + ring, timesTaken[ring]);
        }

        void breakLink(int link) {
            timesFailed[link]++;
            for (int port = 2 * link; port <= 2 * link + 1; port++) {
                setHolds(port, holdsOf[port] & ~WAITING_HOLD);
                beginHold(port, DOWN_HOLD);
                takeNews(plan.placeOf[port], link, timesFailed[link]);
            }
        }

        void mendLink(int link) {
            endHold(2 * link, DOWN_HOLD);
            endHold(2 * link + 1, DOWN_HOLD);
        }

        /** Whether the command is new. */
        boolean giveCommand(int port, int hold) {
            if ((holdsOf[port] & hold) != 0) {
                return false;
            }
            int place = plan.placeOf[port];
            int bridge = place / RINGS;
            endCommand(place);
            beginHold(port, hold);
            timesCommanded[bridge]++;
            takeNews(place, Cast.COMMAND_NAMES + bridge, timesCommanded[bridge]);
            return true;
        }

        /** Whether there was one. */
        boolean endCommand(int place) {
            int port = commandPort(place);
            if (port == NONE) {
                return false;
            }
            endHold(port, holdsOf[port] & COMMAND_HOLDS);
            return true;
        }

        private int commandPort(int place) {
            for (int at = 2 * place; at <= 2 * place + 1; at++) {
                int port = plan.portsAt[at];
                if (port != NONE && (holdsOf[port] & COMMAND_HOLDS) != 0) {
                    return port;
                }
            }
            return NONE;
        }

        private void setHolds(int port, int holds) {
            if (holdsOf[port] != holds) {
                holdsOf[port] = holds;
                phase[plan.placeOf[port]] = 0;
                holdsChanged = true;
            }
        }

        /** For DOWN, FORCED and MANUAL. */
        private void beginHold(int port, int hold) {
            setHolds(port, holdsOf[port] | hold);
            endOwnerHold(plan.placeOf[port]);
            stirs++;
        }

        /** For DOWN, FORCED and MANUAL. */
        private void endHold(int port, int hold) {
            setHolds(port, holdsOf[port] & ~hold | WAITING_HOLD);
            guard[plan.placeOf[port]] = 2 * plan.bridgeCount + 4;
            stirs++;
        }

        private void endOwnerHold(int place) {
            if (plan.isOwner(place)) {
                int port = plan.ownerPort[place % RINGS];
                setHolds(port, holdsOf[port] & ~OWNER_HOLD);
                clock[place % RINGS] = 0;
            }
        }

        private void endWaiting(int place) {
            for (int at = 2 * place; at <= 2 * place + 1; at++) {
                int port = plan.portsAt[at];
                if (port != NONE) {
                    setHolds(port, holdsOf[port] & ~WAITING_HOLD);
                }
            }
        }

        private int allHolds(int place) {
            int all = 0;
            for (int at = 2 * place; at <= 2 * place + 1; at++) {
                int port = plan.portsAt[at];
                all |= port == NONE ? 0 : holdsOf[port];
            }
            return all;
        }

        boolean hasAnyCommand() {
            for (int port = 0; port < 2 * plan.linkCount; port++) {
                if ((holdsOf[port] & COMMAND_HOLDS) != 0) {
                    return true;
                }
            }
            return false;
        }

        boolean hasRingWithTwoFailures() {
            int ringsWithOne = 0;
            for (int link = 0; link < plan.linkCount; link++) {
                if (hasFailed(link)) {
                    int ringBit = 1 << plan.ringOf[link];
                    if ((ringsWithOne & ringBit) != 0) {
                        return true;
                    }
                    ringsWithOne |= ringBit;
                }
            }
            return false;
        }

        void arriveAll() {
            wires.turn();
            for (int port = 0; port < 2 * plan.linkCount; port++) {
                int count = wires.countArriving(port);
                for (int i = 0; i < count; i++) {
                    arrive(port, wires.arrivingCast(port, i));
                }
            }
        }

        private void arrive(int port, int cast) {
            if (isDown(port) || wires.losesOne(port / 2)) {
                return;
            }
            int place = plan.placeOf[port];
            if (Cast.sourceOf(cast) == place / RINGS) {
                return;
            }
            hear(place, cast);
            int other = plan.otherPort(port);
            if (other != NONE && !isDown(other)) {
                wires.put(other ^ 1, cast);
            }
        }

        private void hear(int place, int cast) {
            int kind = Cast.kindOf(cast);
            if (kind != Cast.HEALED) {
                takeNews(place, Cast.nameOf(cast), Cast.numberOf(cast));
            }
            if (guard[place] > 0) {
                return;
            }
            switch (kind) {
                case Cast.FAIL:
                case Cast.FORCED:
                case Cast.MANUAL:
                    hearOfBlock(place, kind, Cast.sourceOf(cast));
                    break;
                case Cast.HEALED:
                    hearOfHealing(place);
                    break;
                case Cast.DONE:
                    endWaiting(place);
                    break;
                default:
                    break;
            }
        }

        /** A block elsewhere in the ring makes this bridge's weaker ones needless. */
        private void hearOfBlock(int place, int kind, int source) {
            endOwnerHold(place);
            endWaiting(place);
            int port = commandPort(place);
            if (port == NONE) {
                return;
            }
            int own = (holdsOf[port] & FORCED_HOLD) != 0 ? Cast.FORCED : Cast.MANUAL;
            boolean isWeaker = own == Cast.MANUAL && kind != Cast.MANUAL;
            if (isWeaker || own == kind && source < place / RINGS) {
                endHold(port, holdsOf[port] & COMMAND_HOLDS);
            }
        }

        private void hearOfHealing(int place) {
            int ring = place % RINGS;
            boolean isBlocking = (allHolds(place) & (ACTIVE_HOLDS | OWNER_HOLD)) != 0;
            if (plan.isOwner(place) && !isBlocking && clock[ring] == 0) {
                clock[ring] = CLOCK_TICKS;
            }
        }

        private void takeNews(int place, int name, int number) {
            int bridge = place / RINGS;
            int at = bridge * Cast.NAMES + name;
            if (number <= greatestTold[at]) {
                return;
            }
            greatestTold[at] = number;
            flushCount[bridge]++;
            tables.forgetAll(bridge);
            int cast = Cast.of(Cast.FLUSH, bridge, name, number);
            for (int ring = 0; ring < RINGS; ring++) {
                if (ring != place % RINGS) {
                    putFromPorts(bridge * RINGS + ring, cast);
                }
            }
        }

        private void putFromPorts(int place, int cast) {
            for (int at = 2 * place; at <= 2 * place + 1; at++) {
                int port = plan.portsAt[at];
                if (port != NONE && !isDown(port)) {
                    wires.put(port ^ 1, cast);
                }
            }
        }

        void turnAll() {
            for (int place = 0; place < plan.bridgeCount * RINGS; place++) {
                if (plan.portsAt[2 * place] == NONE) {
                    continue;
                }
                if (guard[place] > 0) {
                    guard[place]--;
                }
                if (plan.isOwner(place)) {
                    runClock(place);
                }
                if (guard[place] == 0 && (allHolds(place) & (ACTIVE_HOLDS | OWNER_HOLD)) != 0) {
                    endWaiting(place);
                }
                phase[place]++;
                if (isSendingPhase(phase[place])) {
                    speak(place);
                }
            }
        }

        private void runClock(int place) {
            int ring = place % RINGS;
            int all = allHolds(place);
            if ((all & (ACTIVE_HOLDS | OWNER_HOLD)) != 0) {
                return;
            }
            if (clock[ring] == 0) {
                clock[ring] = (all & WAITING_HOLD) != 0 ? CLOCK_TICKS : 0;
                return;
            }
            clock[ring]--;
            if (clock[ring] == 0) {
                takeHold(ring);
            }
        }

        private static boolean isSendingPhase(int phase) {
            return phase == 1 || phase == 2 || phase % 5 == 3;
        }

        private void speak(int place) {
            int cast = castToSend(place);
            if (cast != Cast.SILENCE) {
                putFromPorts(place, cast);
            }
        }

        private int castToSend(int place) {
            int bridge = place / RINGS;
            int ring = place % RINGS;
            int all = allHolds(place);
            if ((all & FORCED_HOLD) != 0) {
                return Cast.of(Cast.FORCED, bridge, Cast.COMMAND_NAMES + bridge, timesCommanded[bridge]);
            }
            if ((all & DOWN_HOLD) != 0) {
                int link = lesserFailedLink(place);
                return Cast.of(Cast.FAIL, bridge, link, timesFailed[link]);
            }
            if ((all & MANUAL_HOLD) != 0) {
                return Cast.of(Cast.MANUAL, bridge, Cast.COMMAND_NAMES + bridge, timesCommanded[bridge]);
            }
            if ((all & WAITING_HOLD) != 0) {
                return Cast.of(Cast.HEALED, bridge, 0, 0);
            }
            if ((all & OWNER_HOLD) != 0) {
                return Cast.of(Cast.DONE, bridge, Cast.DONE_NAMES + ring, timesTaken[ring]);
            }
            return Cast.SILENCE;
        }

        /** Of a place that has one. */
        private int lesserFailedLink(int place) {
            int port = plan.portsAt[2 * place];
            return (isDown(port) ? port : plan.portsAt[2 * place + 1]) / 2;
        }
    }

    /** Hosts, and the way of one frame at a time. */
    private static final class Frames {
        /** Without a circle a frame comes to each bridge once: this ends it with one, too. */
        private static final int MOST_STEPS = 400;

        private final Plan plan;
        private final Protocol protocol;
        private final Tables tables;
        final int[] bridgeOfHost = new int[HOSTS];
        private final int[] stepBridge = new int[MOST_STEPS];
        private final int[] stepLink = new int[MOST_STEPS];
        private int stepCount;
        private final int[] passes = new int[PORTS];
        int mostPasses;

        Frames(Plan plan, Protocol protocol, Tables tables) {
            this.plan = plan;
            this.protocol = protocol;
            this.tables = tables;
            Arrays.fill(bridgeOfHost, NONE);
        }

        /** How many copies were delivered. */
        int carry(int from, int to, int tag, int now) {
            Arrays.fill(passes, 0);
            mostPasses = 0;
            stepCount = 0;
            addStep(bridgeOfHost[from], NONE);
            int delivered = 0;
            for (int step = 0; step < MOST_STEPS && step < stepCount; step++) {
                int bridge = stepBridge[step];
                int cameOver = stepLink[step];
                if (cameOver != NONE) {
                    tables.learn(bridge, tag, from, cameOver, now);
                }
                if (bridge == bridgeOfHost[to]) {
                    delivered++;
                } else {
                    goOn(bridge, cameOver, tables.linkTo(bridge, tag, to, now));
                }
            }
            return delivered;
        }

        private void goOn(int bridge, int cameOver, int known) {
            for (int link = 0; link < plan.linkCount; link++) {
                int port = plan.portOf(bridge, link);
                boolean isWanted = known == NONE || known == link;
                if (port != NONE && isWanted && link != cameOver && protocol.isOpen(link)) {
                    goOver(port);
                }
            }
        }

        private void goOver(int port) {
            passes[port]++;
            mostPasses = Math.max(mostPasses, passes[port]);
            addStep(plan.placeOf[port ^ 1] / RINGS, port / 2);
        }

        private void addStep(int bridge, int link) {
            if (stepCount < MOST_STEPS) {
                stepBridge[stepCount] = bridge;
                stepLink[stepCount] = link;
                stepCount++;
            }
        }
    }
}
