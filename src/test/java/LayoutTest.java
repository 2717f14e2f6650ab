/** Promises 1 to 5: a new object, bridge, link, owner, start. */
public final class LayoutTest {
    public static void main(String[] args) {
        newObject();
        bridge();
        link();
        owner();
        startNeedsLinks();
        closedRings();
        subRings();
        owners();
        startTakesHolds();
        Check.end();
    }

    private static void newObject() {
        RingGuard net = new RingGuard();
        Check.equal("NONE", RingGuard.NONE, -1);
        Check.equal("new casts()", net.casts(), 0);
        Check.equal("new lost()", net.lost(), 0);
        Check.equal("new circles()", net.circles(), 0);
        Check.equal("new apart()", net.apart(), 0);
        Check.equal("new visits()", net.visits(), 0);
        Check.refusesArgument("new joined(0, 0)", () -> net.joined(0, 0));
        Check.refusesArgument("new holds(0, 0)", () -> net.holds(0, 0));
        Check.refusesArgument("new told(0, 0, 0)", () -> net.told(0, 0, 0));
        Check.refusesArgument("new learned(0, 0, 0)", () -> net.learned(0, 0, 0));
        Check.refusesArgument("new link(0, 1, 0)", () -> net.link(0, 1, 0));
        Check.refusesArgument("new fail(0)", () -> net.fail(0));
        Check.refusesState("new ticks(1)", () -> net.ticks(1));
        Check.equal("new start()", net.start(), 7);
        Check.equal("first bridge()", net.bridge(), 0);
    }

    private static void bridge() {
        RingGuard net = new RingGuard();
        for (int i = 0; i < 48; i++) {
            Check.equal("bridge()", net.bridge(), i);
        }
        Check.refusesState("bridge 48", net::bridge);
        Check.isFalse("bridge 47 is there", net.joined(0, 47));
        Check.refusesArgument("bridge 48 is not", () -> net.joined(0, 48));
        RingGuard started = Check.ring(3, 0, 0);
        Check.refusesState("bridge() behind start()", started::bridge);
    }

    private static void link() {
        RingGuard net = Check.bridges(3);
        Check.refusesArgument("link of one bridge", () -> net.link(1, 1, 0));
        Check.refusesArgument("link(-1, 1, 0)", () -> net.link(-1, 1, 0));
        Check.refusesArgument("link(0, 3, 0)", () -> net.link(0, 3, 0));
        Check.refusesArgument("link(0, 1, -1)", () -> net.link(0, 1, -1));
        Check.refusesArgument("link(0, 1, 6)", () -> net.link(0, 1, 6));
        for (int i = 0; i < 60; i++) {
            Check.equal("link()", net.link(i % 3, (i + 1) % 3, i % 6), i);
        }
        Check.refusesState("link 60", () -> net.link(0, 1, 0));
        Check.refusesArgument("link 60 of one bridge", () -> net.link(1, 1, 0));
        Check.equal("link 59 is there", net.holds(2, 59), 0);
        Check.refusesArgument("link 60 is not", () -> net.holds(0, 60));
        RingGuard started = Check.ring(3, 0, 0);
        Check.refusesState("link() behind start()", () -> started.link(0, 1, 0));
        Check.refusesArgument("wrong link() behind start()", () -> started.link(0, 0, 0));
        Check.refusesArgument("no link came of it", () -> started.holds(0, 3));
    }

    private static void owner() {
        RingGuard net = Check.bridges(3);
        Check.way(net, 0, 0, 1, 2, 0);
        Check.refusesArgument("owner(-1, 0, 0)", () -> net.owner(-1, 0, 0));
        Check.refusesArgument("owner(6, 0, 0)", () -> net.owner(6, 0, 0));
        Check.refusesArgument("owner(0, -1, 0)", () -> net.owner(0, -1, 0));
        Check.refusesArgument("owner(0, 3, 0)", () -> net.owner(0, 3, 0));
        Check.refusesArgument("owner(0, 0, -1)", () -> net.owner(0, 0, -1));
        Check.refusesArgument("owner(0, 0, 3)", () -> net.owner(0, 0, 3));
        net.owner(0, 0, 0);
        net.owner(0, 2, 1);
        net.owner(5, 0, 0);
        Check.equal("an owner of a ring without links is passed over", net.start(), 0);
        Check.equal("the owner before", net.holds(0, 0), 0);
        Check.equal("the owner instead", net.holds(2, 1), 16);
        Check.refusesState("owner() behind start()", () -> net.owner(0, 0, 0));
        Check.refusesArgument("wrong owner() behind start()", () -> net.owner(6, 0, 0));
    }

    private static void startNeedsLinks() {
        RingGuard net = Check.bridges(3);
        Check.equal("no links", net.start(), 7);
        Check.way(net, 0, 0, 1, 2, 0);
        Check.equal("no owner", net.start(), 1);
        net.bridge();
        net.owner(0, 0, 0);
        Check.equal("a bridge without links", net.start(), 7);
        Check.way(net, 4, 0, 3, 1);
        net.owner(4, 3, 3);
        Check.equal("all as it must be", net.start(), 0);
        Check.refusesState("start() again", net::start);
    }

    /** What start() answers when ring 0 has these ways, the owner being right. */
    private static int startOf(int bridges, int[]... ways) {
        RingGuard net = Check.bridges(bridges);
        for (int[] way : ways) {
            Check.way(net, 0, way);
        }
        net.owner(0, ways[0][0], 0);
        return net.start();
    }

    private static void closedRings() {
        Check.equal("circle of 3", startOf(3, new int[] {0, 1, 2, 0}), 0);
        Check.equal("circle of 48", Check.ring(48, 5, 5).holds(5, 5), 16);
        Check.equal("circle of 2", startOf(2, new int[] {0, 1, 0}), 1);
        Check.equal("a chain is no first ring", startOf(3, new int[] {0, 1, 2}), 1);
        Check.equal("a chain of 1 link", startOf(2, new int[] {0, 1}), 1);
        Check.equal("two circles", startOf(6, new int[] {0, 1, 2, 0}, new int[] {3, 4, 5, 3}), 1);
        Check.equal("an eight", startOf(5, new int[] {0, 1, 2, 0, 3, 4, 0}), 1);
        Check.equal("a circle with a tail", startOf(4, new int[] {0, 1, 2, 0, 3}), 1);
        Check.equal("a circle and a chain", startOf(6, new int[] {0, 1, 2, 0}, new int[] {3, 4, 5}), 1);
        Check.equal("a double link", startOf(3, new int[] {0, 1, 2, 0, 1}), 1);
        Check.equal("ring 1 with one shared bridge", startOfSecond(5, 2, 3, 4, 2), 0);
        Check.equal("ring 1 with two", startOfSecond(4, 1, 2, 3, 1), 2);
        Check.equal("ring 1 with three", startOfSecond(3, 0, 1, 2, 0), 2);
        Check.equal("ring 1 with none", startOfSecond(6, 3, 4, 5, 3), 2);
        firstRingOfAnyNumber();
    }

    private static void firstRingOfAnyNumber() {
        RingGuard net = Check.bridges(5);
        Check.way(net, 5, 0, 1, 2, 0);
        Check.way(net, 2, 2, 3, 4, 2);
        net.owner(5, 0, 0);
        net.owner(2, 3, 3);
        Check.equal("ring 2 comes first, ring 5 shares a bridge", net.start(), 0);
        RingGuard bad = Check.bridges(5);
        Check.way(bad, 5, 0, 1, 2, 0);
        Check.way(bad, 2, 2, 3, 4);
        bad.owner(5, 0, 0);
        bad.owner(2, 3, 3);
        Check.equal("ring 2 is a chain, and the first", bad.start(), 3);
    }

    /** Ring 0 is 0 1 2; ring 1 is this way, owned at its first link. */
    private static int startOfSecond(int bridges, int... way) {
        RingGuard net = Check.bridges(bridges);
        Check.way(net, 0, 0, 1, 2, 0);
        Check.way(net, 1, way);
        net.owner(0, 0, 0);
        net.owner(1, way[0], 3);
        return net.start();
    }

    private static void subRings() {
        Check.equal("one inner bridge", startOfSecond(4, 0, 3, 1), 0);
        Check.equal("two inner bridges", startOfSecond(5, 0, 3, 4, 1), 0);
        Check.equal("no inner bridge", startOfSecond(3, 0, 1), 2);
        Check.equal("an end that is nowhere else", startOfSecond(5, 0, 3, 4), 2);
        Check.equal("an inner bridge of an earlier ring", startOfSecond(4, 0, 1, 3, 2), 2);
        Check.equal("only an inner bridge is", startOfSecond(5, 3, 0, 4), 2);
        subRingsOnOthers();
    }

    /** Ring 0 is 0 1 2, ring 1 the sub-ring 0 3 4 1, ring 2 closed 2 5 6; ring 3 is this way. */
    private static int startOfFourth(int bridges, int... way) {
        RingGuard net = Check.bridges(bridges);
        Check.way(net, 0, 0, 1, 2, 0);
        Check.way(net, 1, 0, 3, 4, 1);
        Check.way(net, 2, 2, 5, 6, 2);
        Check.way(net, 3, way);
        net.owner(0, 0, 0);
        net.owner(1, 3, 3);
        net.owner(2, 6, 7);
        net.owner(3, way[0], 9);
        return net.start();
    }

    private static void subRingsOnOthers() {
        Check.equal("the same ends as another sub-ring", startOfFourth(8, 0, 7, 1), 0);
        Check.equal("ends in the later closed ring", startOfFourth(8, 2, 7, 6), 0);
        Check.equal("both ends in a sub-ring only", startOfFourth(8, 3, 7, 4), 4);
        Check.equal("one end in a sub-ring only", startOfFourth(8, 0, 7, 4), 4);
        Check.equal("ends in two closed rings", startOfFourth(8, 0, 7, 5), 4);
        Check.equal("a closed ring at a sub-ring", startOfFourth(9, 3, 7, 8, 3), 0);
    }

    private static void owners() {
        RingGuard net = Check.twoRings(0, 1, 3, 3);
        Check.equal("an owner not at its link", net.start(), 1);
        net.owner(0, 0, 3);
        Check.equal("a link of another ring", net.start(), 1);
        net.owner(0, 2, 1);
        net.owner(1, 0, 0);
        Check.equal("the second ring's owner", net.start(), 2);
        net.owner(0, 1, 2);
        Check.equal("the first ring that is wrong", net.start(), 1);
        net.owner(0, 1, 1);
        net.owner(1, 0, 5);
        Check.equal("right ones", net.start(), 0);
    }

    private static void startTakesHolds() {
        RingGuard net = Check.twoRings(0, 0, 0, 5);
        Check.equal("no hold before", net.holds(0, 0), 0);
        net.start();
        int[] due = {16, 0, 0, 0, 0, 16};
        int[] at = {0, 1, 2, 0, 3, 0};
        for (int link = 0; link < 6; link++) {
            Check.equal("hold of link " + link, net.holds(at[link], link), due[link]);
        }
        Check.equal("the other port", net.holds(1, 0), 0);
        Check.equal("two NEWS", net.told(0, 0, 0), 2);
        Check.equal("no NEWS yet", net.told(1, 0, 0), 0);
        Check.equal("FLUSH of each in the other ring", net.casts(), 4);
    }
}
