/**
 * Promises 1 to 5 at their edges: how many bridges, links and rings there may be, what rings may
 * look like, who may own them. Each test stands behind the sentence that it is of.
 */
public final class RingsEdgesTest {
    private static final int[] NO_LINKS = {};
    private static final int[] TRIANGLE = {0, 1, 2, 0};

    public static void main(String[] args) {
        mostBridges();
        mostLinks();
        firstAndLastRing();
        allThereCanBe();
        circleOfThreeOrMore();
        circleThroughEachOnce();
        noneSharedByTheFirst();
        oneSharedByLaterCircles();
        chainIsNotTheFirst();
        chainThroughEachOnce();
        justTheTwoEndsAreShared();
        oneClosedRingHasBothEnds();
        innerBridges();
        laterRingLaidFirst();
        ownerAtAnEnd();
        ownerInsteadOfAnother();
        whatStartTells();
        refusedStart();
        holdsAtStart();
        Check.end();
    }

    private static RingGuard laidOut(int bridges, int[]... ways) {
        RingGuard net = Check.bridges(bridges);
        int link = 0;
        for (int ring = 0; ring < ways.length; ring++) {
            if (ways[ring].length > 0) {
                Check.way(net, ring, ways[ring]);
                net.owner(ring, ways[ring][0], link);
                link += ways[ring].length - 1;
            }
        }
        return net;
    }

    /** What start() tells of rings along these ways, each owned at the beginning of its way. */
    private static int startOf(int bridges, int[]... ways) {
        return laidOut(bridges, ways).start();
    }

    private static int[] way(int... bridges) {
        return bridges;
    }

    /** From one bridge over first, first + 1, .., last to another one. */
    private static int[] span(int from, int first, int last, int to) {
        int[] way = new int[last - first + 3];
        way[0] = from;
        for (int bridge = first; bridge <= last; bridge++) {
            way[bridge - first + 1] = bridge;
        }
        way[way.length - 1] = to;
        return way;
    }

    /** "BRIDGES are 0, 1, .., 48 at most"; "Illegal state: also if there are 48." */
    private static void mostBridges() {
        RingGuard net = new RingGuard();
        Check.refusesArgument("no bridge yet", () -> net.joined(0, 0));
        for (int i = 0; i < 48; i++) {
            int next = i;
            Check.refusesArgument("bridge " + i + " is not there yet", () -> net.told(next, 0, 0));
            Check.equal("bridge()", net.bridge(), i);
            Check.equal("bridge " + i + " is there", net.told(i, 0, 0), 0);
        }
        Check.refusesState("the 49th", net::bridge);
        Check.refusesState("the 49th again", net::bridge);
        Check.equal("48 are there", Seen.countBridges(net), 48);
        Check.equal("a link of the last two", net.link(46, 47, 0), 0);
    }

    /** "LINKS 0, 1, .., 60 at most"; "illegal state: also if there are 60." */
    private static void mostLinks() {
        RingGuard net = Check.bridges(2);
        Check.refusesArgument("no link yet", () -> net.holds(0, 0));
        for (int i = 0; i < 60; i++) {
            int next = i;
            Check.refusesArgument("link " + i + " is not there yet", () -> net.owner(0, 0, next));
            Check.equal("link()", net.link(i % 2, 1 - i % 2, i % 6), i);
            Check.equal("link " + i + " is there", net.holds(1, i), 0);
        }
        Check.refusesState("the 61st", () -> net.link(0, 1, 0));
        Check.refusesState("the 61st in another ring", () -> net.link(1, 0, 5));
        Check.refusesArgument("a wrong 61st", () -> net.link(0, 1, 6));
        net.owner(5, 1, 59);
        Check.refusesArgument("link 60 is not there", () -> net.owner(5, 1, 60));
        Check.equal("a bridge still", net.bridge(), 2);
    }

    /** "RINGS 0 .. 5." */
    private static void firstAndLastRing() {
        for (int ring = 0; ring <= 5; ring++) {
            int[][] ways = {NO_LINKS, NO_LINKS, NO_LINKS, NO_LINKS, NO_LINKS, NO_LINKS};
            ways[ring] = TRIANGLE;
            RingGuard net = laidOut(3, ways);
            Check.equal("ring " + ring + " alone", net.start(), 0);
            Check.equal("its owner holds", net.holds(0, 0), 16);
            Check.equal("told()", net.told(0, ring, 1), 0);
            Check.isTrue("order()", net.order(1, 1, true));
            Check.isTrue("clear()", net.clear(1, ring));
            Check.equal("its guard", net.told(1, ring, 1), 10);
        }
        RingGuard net = Check.bridges(3);
        Check.refusesArgument("link() in ring -1", () -> net.link(0, 1, -1));
        Check.refusesArgument("link() in ring 6", () -> net.link(0, 1, 6));
    }

    /** Six rings with 48 bridges have 53 links: no more of them can start. */
    private static void allThereCanBe() {
        RingGuard net = laidOut(48, span(0, 1, 7, 0), span(7, 8, 15, 7), span(0, 16, 23, 7),
                span(15, 24, 31, 15), span(8, 32, 39, 7), span(31, 40, 47, 31));
        Check.equal("all is as it must be", net.start(), 0);
        int[] protection = {0, 8, 17, 26, 35, 44};
        int[] owners = {0, 7, 0, 15, 8, 31};
        for (int ring = 0; ring < 6; ring++) {
            Check.equal("owner of ring " + ring, net.holds(owners[ring], protection[ring]), 16);
        }
        Check.equal("the last link", net.holds(47, 52), 0);
        Check.refusesArgument("no further one", () -> net.fail(53));
        net.ticks(200);
        for (int bridge = 0; bridge < 48; bridge++) {
            Check.equal("NEWS of all six to bridge " + bridge, net.told(bridge, 0, 0), 6);
            Check.isTrue("joined", net.joined(bridge, 47 - bridge));
        }
        for (int host = 0; host < 64; host++) {
            Check.equal("host " + host + " was nowhere", net.host(host, host % 48), RingGuard.NONE);
        }
        for (int host = 1; host < 64; host++) {
            Check.equal("one copy from host " + host, net.send(host, 0, host % 4), 1);
            Check.equal("each link once", net.visits(), host % 48 == 0 ? 0 : 1);
        }
        for (int ring = 0; ring < 6; ring++) {
            net.fail(protection[ring] + 4);
        }
        net.ticks(200);
        Check.isTrue("one failure in each ring", net.joined(0, 47));
        Check.equal("NEWS of them", net.told(47, 5, 0), 12);
        Check.equal("apart", net.apart(), 0);
        Check.equal("circles", net.circles(), 0);
    }

    /** "a circle that goes through three bridges or more" */
    private static void circleOfThreeOrMore() {
        Check.equal("first ring, 2 bridges", startOf(2, way(0, 1, 0)), 1);
        Check.equal("first ring, 3 bridges", startOf(3, way(0, 1, 2, 0)), 0);
        Check.equal("first ring, 4 bridges", startOf(4, way(0, 1, 2, 3, 0)), 0);
        Check.equal("first ring, 48 bridges", startOf(48, span(0, 1, 47, 0)), 0);
        Check.equal("later ring, 2 bridges", startOf(4, TRIANGLE, way(2, 3, 2)), 2);
        Check.equal("later ring, 3 bridges", startOf(5, TRIANGLE, way(2, 3, 4, 2)), 0);
        Check.equal("later ring, 46 bridges", startOf(48, TRIANGLE, span(2, 3, 47, 2)), 0);
    }

    /** "a circle that goes through .., each once" */
    private static void circleThroughEachOnce() {
        Check.equal("a bridge twice", startOf(5, way(0, 1, 2, 0, 3, 4, 0)), 1);
        Check.equal("a link there and back", startOf(4, way(0, 1, 2, 3, 2, 0)), 1);
        Check.equal("the circle twice", startOf(3, way(0, 1, 2, 0, 1, 2, 0)), 1);
        Check.equal("a tail", startOf(4, way(3, 0, 1, 2, 0)), 1);
        RingGuard two = laidOut(6, TRIANGLE);
        Check.way(two, 0, 3, 4, 5, 3);
        Check.equal("two circles", two.start(), 1);
        RingGuard pairs = laidOut(4, way(0, 1, 0));
        Check.way(pairs, 0, 2, 3, 2);
        Check.equal("two pairs with two links each", pairs.start(), 1);
    }

    /** "of these none, if it is the first ring, .. is in an earlier ring": later ones do not count. */
    private static void noneSharedByTheFirst() {
        Check.equal("the first one's bridges are in a later ring",
                startOf(5, NO_LINKS, way(0, 1, 2, 0), NO_LINKS, way(2, 3, 4, 2)), 0);
        Check.equal("of the later one, all are in the first", startOf(3, TRIANGLE, TRIANGLE), 2);
    }

    /** "else just one, is in an earlier ring" */
    private static void oneSharedByLaterCircles() {
        Check.equal("none", startOf(6, TRIANGLE, way(3, 4, 5, 3)), 2);
        Check.equal("one", startOf(5, TRIANGLE, way(0, 3, 4, 0)), 0);
        Check.equal("two", startOf(5, TRIANGLE, way(0, 3, 4, 1, 0)), 2);
        Check.equal("two that are not neighbours", startOf(5, TRIANGLE, way(0, 3, 1, 4, 0)), 2);
        Check.equal("three", startOf(4, TRIANGLE, way(0, 1, 2, 3, 0)), 2);
        Check.equal("one that is in two earlier rings",
                startOf(7, TRIANGLE, way(0, 3, 4, 0), way(0, 5, 6, 0)), 0);
        Check.equal("one of each of two earlier rings",
                startOf(6, TRIANGLE, way(0, 3, 4, 0), way(1, 3, 5, 1)), 3);
        Check.equal("one that is in a sub-ring alone",
                startOf(6, TRIANGLE, way(0, 3, 1), way(3, 4, 5, 3)), 0);
    }

    /** "Or it is a SUB-RING (not the first one)" */
    private static void chainIsNotTheFirst() {
        Check.equal("a chain alone", startOf(3, way(0, 1, 2)), 1);
        Check.equal("a chain in ring 5 alone",
                startOf(3, NO_LINKS, NO_LINKS, NO_LINKS, NO_LINKS, NO_LINKS, way(0, 1, 2)), 6);
        Check.equal("a chain before the circle", startOf(4, way(0, 3, 1), TRIANGLE), 1);
        Check.equal("a chain behind it", startOf(4, TRIANGLE, way(0, 3, 1)), 0);
    }

    /** "its links are a chain, from one bridge to another one through others, each once" */
    private static void chainThroughEachOnce() {
        RingGuard star = laidOut(4, TRIANGLE, way(0, 3, 1));
        star.link(3, 2, 1);
        Check.equal("a star", star.start(), 2);
        RingGuard twice = laidOut(4, TRIANGLE, way(0, 3, 1));
        twice.link(3, 1, 1);
        Check.equal("a link twice", twice.start(), 2);
        RingGuard twoChains = laidOut(5, TRIANGLE, way(0, 3, 1));
        Check.way(twoChains, 1, 1, 4, 2);
        Check.equal("a longer chain with a shared one inside", twoChains.start(), 2);
        RingGuard apart = laidOut(8, way(0, 1, 2, 3, 0), way(0, 4, 1));
        Check.way(apart, 1, 5, 6, 7, 5);
        Check.equal("a chain and a circle", apart.start(), 2);
        RingGuard chains = laidOut(6, way(0, 1, 2, 3, 0), way(0, 4, 1));
        Check.way(chains, 1, 2, 5, 3);
        Check.equal("two chains", chains.start(), 2);
    }

    /** "just its two ends are in earlier rings" */
    private static void justTheTwoEndsAreShared() {
        Check.equal("no end", startOf(6, TRIANGLE, way(3, 4, 5)), 2);
        Check.equal("the first end", startOf(5, TRIANGLE, way(0, 3, 4)), 2);
        Check.equal("the last end", startOf(5, TRIANGLE, way(3, 4, 0)), 2);
        Check.equal("both ends", startOf(5, TRIANGLE, way(0, 3, 4, 1)), 0);
        Check.equal("both, and one within", startOf(5, TRIANGLE, way(0, 3, 2, 4, 1)), 2);
        Check.equal("two within, no end", startOf(6, TRIANGLE, way(3, 0, 1, 4), way(4, 5, 3)), 2);
        Check.equal("one end and one within", startOf(5, TRIANGLE, way(0, 3, 1, 4)), 2);
    }

    /** "and one earlier closed ring has both" */
    private static void oneClosedRingHasBothEnds() {
        int[] second = way(2, 3, 4, 2);
        Check.equal("the first of two", startOf(6, TRIANGLE, second, way(0, 5, 2)), 0);
        Check.equal("the second of two", startOf(6, TRIANGLE, second, way(2, 5, 4)), 0);
        Check.equal("one end in each", startOf(6, TRIANGLE, second, way(0, 5, 3)), 3);
        Check.equal("a later closed ring", startOf(6, TRIANGLE, way(2, 5, 4), second), 2);
        int[] sub = way(0, 3, 4, 1);
        Check.equal("a sub-ring has both", startOf(6, TRIANGLE, sub, way(3, 5, 4)), 3);
        Check.equal("a sub-ring has both, a closed ring one", startOf(6, TRIANGLE, sub, way(0, 5, 3)), 3);
        Check.equal("a sub-ring and a closed ring have both", startOf(6, TRIANGLE, sub, way(1, 5, 0)), 0);
        Check.equal("all six rings at the same two ends", startOf(8, TRIANGLE, way(0, 3, 1), way(1, 4, 0),
                way(0, 5, 1), way(0, 6, 1), way(1, 7, 0)), 0);
    }

    /** "it has an inner bridge" */
    private static void innerBridges() {
        Check.equal("none", startOf(3, TRIANGLE, way(0, 1)), 2);
        Check.equal("one", startOf(4, TRIANGLE, way(0, 3, 1)), 0);
        Check.equal("two", startOf(5, TRIANGLE, way(0, 3, 4, 1)), 0);
        Check.equal("all that there can be", startOf(48, TRIANGLE, span(0, 3, 47, 1)), 0);
    }

    /** "start() looks at rings in their order": not in that in which their links came. */
    private static void laterRingLaidFirst() {
        RingGuard net = Check.bridges(5);
        Check.way(net, 1, 0, 3, 1);
        Check.way(net, 0, 0, 1, 2, 0);
        net.owner(1, 3, 0);
        net.owner(0, 2, 3);
        Check.equal("a bridge has no link", net.start(), 7);
        net.link(4, 0, 2);
        Check.equal("rings 0 and 1 are right", net.start(), 3);
        net.link(4, 3, 2);
        net.owner(2, 4, 5);
        Check.equal("no closed ring has bridges 0 and 3", net.start(), 3);
        RingGuard right = Check.bridges(4);
        Check.way(right, 1, 0, 3, 1);
        Check.way(right, 0, 0, 1, 2, 0);
        right.owner(1, 3, 0);
        right.owner(0, 2, 3);
        Check.equal("the sub-ring's links came first", right.start(), 0);
        RingGuard pieces = Check.bridges(6);
        pieces.link(0, 3, 1);
        Check.way(pieces, 0, 0, 1, 2, 0);
        Check.way(pieces, 1, 4, 5, 1);
        pieces.owner(1, 3, 0);
        pieces.owner(0, 2, 2);
        Check.equal("a chain in two pieces, one of them link 0", pieces.start(), 2);
    }

    /** "Each ring with links has an OWNER, a bridge at an end of its PROTECTION link, one of its links." */
    private static void ownerAtAnEnd() {
        RingGuard none = Check.bridges(3);
        Check.way(none, 0, TRIANGLE);
        Check.equal("no owner", none.start(), 1);
        for (int bridge = 0; bridge < 3; bridge++) {
            for (int link = 0; link < 3; link++) {
                RingGuard net = laidOut(3, TRIANGLE);
                net.owner(0, bridge, link);
                boolean isAtEnd = bridge == link || bridge == (link + 1) % 3;
                Check.equal("owner(0, " + bridge + ", " + link + ")", net.start(), isAtEnd ? 0 : 1);
            }
        }
        RingGuard other = laidOut(5, TRIANGLE, way(0, 3, 4, 0));
        other.owner(0, 0, 3);
        Check.equal("at an end of a link of another ring", other.start(), 1);
        RingGuard later = laidOut(5, TRIANGLE, way(0, 3, 4, 0));
        later.owner(1, 0, 2);
        Check.equal("the later ring's at one of the earlier", later.start(), 2);
        RingGuard end = laidOut(4, TRIANGLE, way(0, 3, 1));
        end.owner(1, 1, 4);
        Check.equal("a sub-ring's end", end.start(), 0);
    }

    /** "A ring's owner and its protection link, instead of what they were." */
    private static void ownerInsteadOfAnother() {
        RingGuard net = laidOut(3, TRIANGLE);
        net.owner(0, 2, 0);
        Check.equal("a wrong one instead of a right one", net.start(), 1);
        net.owner(0, 2, 2);
        net.owner(5, 2, 2);
        Check.refusesArgument("a refused one", () -> net.owner(0, 1, 3));
        Check.equal("a right one again; ring 5 has no links", net.start(), 0);
        Check.equal("it holds", net.holds(2, 2), 16);
        Check.equal("the one before does not", net.holds(0, 0), 0);
    }

    /** "0 nothing; 7 there are no links, or a bridge has none; else the first ring .., as 1 and its number." */
    private static void whatStartTells() {
        Check.equal("no bridge", new RingGuard().start(), 7);
        Check.equal("a bridge", startOf(1), 7);
        Check.equal("48 bridges", startOf(48), 7);
        Check.equal("a bridge without links", startOf(4, TRIANGLE), 7);
        Check.equal("bridge 0 without links", startOf(4, way(1, 2, 3, 1)), 7);
        Check.equal("that, and a wrong ring", startOf(4, way(0, 1, 2)), 7);
        Check.equal("all have some, and a wrong ring", startOf(3, way(0, 1, 2)), 1);
        for (int wrong = 0; wrong <= 5; wrong++) {
            int[][] ways = {TRIANGLE, way(0, 3, 1), way(0, 4, 1), way(0, 5, 1), way(0, 6, 1), way(0, 7, 1)};
            RingGuard net = laidOut(8, ways);
            net.owner(wrong, 2, 0);
            net.owner(5, 2, 0);
            Check.equal("ring " + wrong + " and ring 5 have no right owner", net.start(), 1 + wrong);
        }
        Check.equal("shape of ring 1, owner of ring 0 right", startOf(6, TRIANGLE, way(3, 4, 5, 3)), 2);
        RingGuard both = laidOut(6, TRIANGLE, way(3, 4, 5, 3));
        both.owner(0, 0, 1);
        Check.equal("owner of ring 0, shape of ring 1", both.start(), 1);
    }

    /** A start that tells something is not accepted: all goes on as before it. */
    private static void refusedStart() {
        RingGuard net = laidOut(4, TRIANGLE);
        String before = Seen.of(net);
        for (int i = 0; i < 3; i++) {
            Check.equal("a bridge has no link", net.start(), 7);
            Check.equal("nothing has changed", Seen.of(net), before);
        }
        Check.refusesState("fail()", () -> net.fail(0));
        Check.refusesState("ticks()", () -> net.ticks(1));
        Check.equal("link()", net.link(0, 3, 1), 3);
        Check.equal("half a sub-ring", net.start(), 2);
        Check.equal("bridge()", net.bridge(), 4);
        Check.equal("link()", net.link(3, 4, 1), 4);
        Check.equal("link()", net.link(1, 4, 1), 5);
        Check.equal("no owner", net.start(), 2);
        net.owner(1, 4, 4);
        Check.equal("all is as it must be", net.start(), 0);
        Check.refusesState("start() again", net::start);
        Check.equal("ticks()", net.ticks(1), 1);
    }

    /** "each owner takes its hold as below; no other port has a hold then"; "(1 at start)" */
    private static void holdsAtStart() {
        RingGuard net = laidOut(7, TRIANGLE, way(0, 3, 4, 0), way(0, 5, 6, 0));
        net.start();
        int held = 0;
        for (int link = 0; link < 9; link++) {
            int first = link % 3 == 0 ? 0 : 2 * (link / 3) + link % 3;
            held += net.holds(first, link);
        }
        Check.equal("bridge 0 owns all three, at their first links", held, 3 * 16);
        Check.equal("NEWS of each", net.told(0, 0, 0), 3);
        Check.equal("FLUSH of each, in two rings both ways", net.casts(), 3 * 4);
        net.ticks(1);
        for (int bridge = 1; bridge < 7; bridge++) {
            Check.equal("NEWS of two by FLUSH to bridge " + bridge, net.told(bridge, 0, 0), 2);
        }
        net.ticks(1);
        for (int bridge = 1; bridge < 7; bridge++) {
            Check.equal("and of its own ring by DONE", net.told(bridge, 0, 0), 3);
        }
        net.ticks(30);
        Check.equal("a number that was told already is no NEWS", net.told(6, 0, 0), 3);
    }
}
