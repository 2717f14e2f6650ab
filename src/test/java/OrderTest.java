/**
 * In which order things happen within a tick, within a call, within a lane of a link: the order
 * shows itself when just the first of several casts is lost. Each test stands behind its sentence.
 */
public final class OrderTest {
    public static void main(String[] args) {
        towardsTheFirstBridgeFirst();
        inTheOrderInWhichTheyCame();
        ringByRingInATick();
        ringByRingAtStart();
        hearsBeforeItsTurn();
        Check.end();
    }

    /** "link by link, those towards its first bridge before those towards its second one" */
    private static void towardsTheFirstBridgeFirst() {
        for (int first = 1; first <= 2; first++) {
            RingGuard net = Check.bridges(3);
            net.link(0, 1, 0);
            net.link(first, 3 - first, 0);
            net.link(2, 0, 0);
            net.owner(0, 0, 0);
            net.start();
            // DONE of tick 8 is on link 1 both ways behind tick 9; nothing else is on links then.
            net.ticks(9);
            Check.equal("both ways", net.casts(), 2);
            net.lose(1, 1);
            net.ticks(1);
            Check.equal("one of them is lost", net.lost(), 1);
            Check.equal("the other one went on", net.casts(), 1);
            net.lose(0, 1);
            net.lose(2, 1);
            net.ticks(1);
            // What came to bridge 2 goes on over link 2, what came to bridge 1 over link 0.
            Check.equal("over link 0, the first bridge being " + first, net.lose(0, 0), first == 1 ? 1 : 0);
            Check.equal("over link 2, the first bridge being " + first, net.lose(2, 0), first == 1 ? 0 : 1);
        }
    }

    /**
     * "link by link, .., in the order in which they came on it": in tick 13 bridge 0 has MANUAL of
     * bridge 1 over link 0 (FLUSH in ring 1, and on over link 2), then MANUAL of bridge 3 over
     * link 3 (FLUSH in ring 0, and on over link 5).
     */
    private static void inTheOrderInWhichTheyCame() {
        RingGuard net = Check.twoRings(2, 1, 4, 4);
        net.start();
        net.ticks(11);
        Check.equal("nothing is on links", net.casts(), 0);
        net.order(1, 1, false);
        net.order(3, 3, false);
        net.lose(4, 1000);
        net.ticks(2);
        Check.equal("bridge 4 had nothing yet", net.holds(4, 4), 16);
        int toldFour = net.told(4, 1, 0);
        int toldTwo = net.told(2, 0, 0);
        net.lose(5, 1);
        net.lose(2, 1);
        net.ticks(1);
        Check.equal("over link 5 FLUSH came first and is lost; MANUAL came", net.holds(4, 4), 0);
        Check.equal("with its NEWS alone", net.told(4, 1, 0), toldFour + 1);
        Check.equal("over link 2 MANUAL came first and is lost; FLUSH came", net.told(2, 0, 0), toldTwo + 1);
    }

    /**
     * "Then, bridge by bridge, ring by ring": bridge 0 is in three rings and takes its hold in ring
     * 1 (FLUSH in rings 0 and 2) in the tick in which it sends FORCED in rings 0 and 2.
     */
    private static void ringByRingInATick() {
        RingGuard net = threeRings();
        net.ticks(1);
        net.order(0, 3, false);
        net.clear(0, 1);
        for (int i = 0; i < 100 && net.told(0, 1, 2) != 1; i++) {
            net.ticks(1);
        }
        Check.equal("one tick till the hold", net.told(0, 1, 2), 1);
        net.order(0, 0, true);
        net.order(0, 6, true);
        net.ticks(1);
        Check.equal("the owner holds", net.holds(0, 3) & 16, 16);
        int toldOne = net.told(1, 0, 0);
        int toldFive = net.told(5, 2, 0);
        Check.equal("owner of ring 0", net.holds(1, 1), 16);
        Check.equal("owner of ring 2", net.holds(5, 7), 16);
        net.lose(0, 1);
        net.lose(6, 1);
        net.ticks(1);
        Check.equal("ring 0: FORCED was sent first and is lost", net.holds(1, 1), 16);
        Check.equal("ring 0: FLUSH came", net.told(1, 0, 0), toldOne + 1);
        Check.equal("ring 2: FLUSH was sent first and is lost; FORCED came", net.holds(5, 7), 0);
        Check.equal("ring 2: with its NEWS alone", net.told(5, 2, 0), toldFive + 1);
    }

    /** Rings 0 1 2, 0 3 4 and 0 5 6, owned by bridges 1, 0 and 5. */
    private static RingGuard threeRings() {
        RingGuard net = Check.bridges(7);
        Check.way(net, 0, 0, 1, 2, 0);
        Check.way(net, 1, 0, 3, 4, 0);
        Check.way(net, 2, 0, 5, 6, 0);
        net.owner(0, 1, 1);
        net.owner(1, 0, 3);
        net.owner(2, 5, 7);
        Check.equal("three rings", net.start(), 0);
        return net;
    }

    /**
     * "when start() was accepted, ring by ring, each owner takes its hold": bridge 0 sends FLUSH of
     * ring 0, then that of ring 1 to bridge 5, of the sub-ring 0 5 1. The first one is lost, and
     * comes by way of bridge 1 in tick 3, the second one also in tick 2.
     */
    private static void ringByRingAtStart() {
        RingGuard net = Check.bridges(6);
        Check.way(net, 0, 0, 1, 2, 0);
        Check.way(net, 1, 0, 3, 4, 0);
        Check.way(net, 2, 0, 5, 1);
        net.owner(0, 0, 0);
        net.owner(1, 0, 3);
        net.owner(2, 5, 7);
        net.start();
        Check.equal("FLUSH over three ports each", net.casts(), 6);
        Check.equal("its own hold", net.told(5, 2, 0), 1);
        net.lose(6, 1);
        net.ticks(1);
        Check.equal("one of two", net.told(5, 2, 0), 2);
        net.ticks(1);
        Check.equal("it was that of ring 1", net.told(5, 2, 0), 2);
        net.ticks(1);
        Check.equal("that of ring 0", net.told(5, 2, 0), 3);
    }

    /** "First all casts that are on links arrive .. Then, bridge by bridge": what is heard counts in the same tick. */
    private static void hearsBeforeItsTurn() {
        RingGuard net = Check.ring(3, 0, 0);
        net.ticks(11);
        Check.equal("nothing is on links", net.casts(), 0);
        net.order(1, 1, false);
        net.ticks(1);
        // Tick 13 would be one of DONE: the owner hears MANUAL first, and has none to send.
        Check.equal("MANUAL both ways", net.casts(), 2);
        net.ticks(1);
        Check.equal("two go on, two are sent, no DONE", net.casts(), 4);
        Check.equal("the hold has ended", net.holds(0, 0), 0);
        RingGuard guarded = Check.ring(3, 0, 0);
        guarded.order(1, 1, false);
        guarded.order(2, 2, false);
        guarded.ticks(2);
        Check.equal("guard that begins when it hears is one less behind its turn", guarded.told(2, 0, 1), 9);
        // HEALED in the tick in which it heard: phase 0, then 1.
        guarded.lose(0, 1000);
        guarded.lose(1, 1000);
        guarded.lose(2, 1000);
        int lost = guarded.lost();
        int casts = guarded.casts();
        guarded.ticks(1);
        Check.equal("all that were on links are lost", guarded.lost(), lost + casts);
        Check.equal("phase 3 of bridge 1, phase 2 of bridge 2", guarded.casts(), 4);
        guarded.ticks(1);
        Check.equal("phase 4 of bridge 1, phase 3 of bridge 2", guarded.casts(), 2);
        guarded.ticks(1);
        Check.equal("phase 5 of bridge 1, phase 4 of bridge 2", guarded.casts(), 0);
    }
}
