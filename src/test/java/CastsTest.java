/** Promises 11, 19 and 20, and the terms behind them: casts, clocks, guards, news. */
public final class CastsTest {
    public static void main(String[] args) {
        sendingPhases();
        clockOfHealing();
        clockOfWaitingOwner();
        ownerUnderGuard();
        doneEndsWaiting();
        guardHearsNewsOnly();
        weakerCommandsEnd();
        failAndForcedGoTogether();
        newsOfTwoFailures();
        newsGoesThroughRings();
        subRingEnds();
        lostOverAFullLink();
        goneOverAFailedLink();
        lostCasts();
        Check.end();
    }

    private static void sendingPhases() {
        RingGuard net = Check.ring(3, 0, 0);
        Check.equal("none at first", net.casts(), 0);
        // DONE is sent both ways in ticks 1, 2, 3, 8, 13; each is on links for three ticks.
        int[] due = {2, 4, 6, 4, 2, 0, 0, 2, 2, 2, 0, 0, 2, 2, 2, 0, 0, 2};
        for (int i = 0; i < due.length; i++) {
            net.ticks(1);
            Check.equal("casts() behind tick " + (i + 1), net.casts(), due[i]);
        }
        net.order(1, 1, false);
        net.ticks(1);
        Check.equal("a new hold: phase 1 again", net.casts(), 4);
    }

    /** Bridges 0 .. 4, owner 2: HEALED of bridge 1 is there a tick after it was sent. */
    private static void clockOfHealing() {
        RingGuard net = Check.ring(5, 2, 2);
        net.fail(0);
        net.ticks(7);
        Check.equal("the owner opened", net.holds(2, 2), 0);
        net.heal(0);
        net.ticks(1);
        Check.equal("HEALED is on its way", net.told(2, 0, 2), 0);
        net.ticks(1);
        Check.equal("heard, and the tick's own one less", net.told(2, 0, 2), 59);
        net.ticks(58);
        Check.equal("one left", net.told(2, 0, 2), 1);
        Check.equal("not yet", net.holds(2, 2), 0);
        net.ticks(1);
        Check.equal("at 0 the owner holds", net.holds(2, 2), 16);
        Check.equal("the clock does not run", net.told(2, 0, 2), 0);
        Check.equal("NEWS of start, FAIL and the new hold", net.told(2, 0, 0), 3);
        net.ticks(1);
        Check.equal("DONE at bridge 1: no more WAITING", net.holds(1, 0), 0);
        Check.equal("not yet at bridge 0", net.holds(0, 0), 8);
        net.ticks(1);
        Check.equal("at bridge 4", net.told(4, 0, 0), 3);
        net.ticks(1);
        Check.equal("now at bridge 0, too", net.holds(0, 0), 0);
    }

    private static void clockOfWaitingOwner() {
        RingGuard net = Check.ring(3, 0, 0);
        net.order(0, 0, true);
        net.clear(0, 0);
        Check.equal("WAITING", net.holds(0, 0), 8);
        Check.equal("not set by the call", net.told(0, 0, 2), 0);
        net.ticks(1);
        Check.equal("set by the tick", net.told(0, 0, 2), 60);
        net.ticks(1);
        Check.equal("one less", net.told(0, 0, 2), 59);
        net.ticks(58);
        Check.equal("WAITING till the end", net.holds(0, 0), 8);
        net.ticks(1);
        Check.equal("OWNER, and no guard: no more WAITING", net.holds(0, 0), 16);
    }

    /** 30 bridges: guard is 64 ticks, so the owner holds before it is over. */
    private static void ownerUnderGuard() {
        RingGuard net = Check.ring(30, 0, 0);
        net.order(0, 29, false);
        net.clear(0, 0);
        net.ticks(61);
        Check.equal("the owner holds", net.holds(0, 0), 16);
        Check.equal("under guard", net.told(0, 0, 1), 3);
        Check.equal("WAITING stays", net.holds(0, 29), 8);
        net.ticks(2);
        Check.equal("still", net.holds(0, 29), 8);
        net.ticks(1);
        Check.equal("guard is over", net.holds(0, 29), 0);
    }

    private static void doneEndsWaiting() {
        RingGuard net = Check.ring(4, 0, 0);
        net.order(2, 2, false);
        net.clear(2, 0);
        Check.equal("the owner heard nothing of it", net.holds(0, 0), 16);
        // Guard is 12 ticks: DONE arrives before that and is not heard.
        net.ticks(12);
        Check.equal("HEALED sets no clock of an owner that holds", net.told(0, 0, 2), 0);
        Check.equal("guard is over", net.told(2, 0, 1), 0);
        Check.equal("WAITING", net.holds(2, 2), 8);
        // The owner sends in tick 13, bridge 2 is two links away.
        net.ticks(2);
        Check.equal("WAITING still", net.holds(2, 2), 8);
        net.ticks(1);
        Check.equal("DONE ends it", net.holds(2, 2), 0);
    }

    private static void guardHearsNewsOnly() {
        RingGuard net = Check.ring(4, 0, 0);
        net.order(2, 2, false);
        net.clear(2, 0);
        net.fail(0);
        int flushed = net.told(2, 0, 0);
        net.ticks(8);
        Check.equal("NEWS of FAIL", net.told(2, 0, 0), flushed + 1);
        Check.equal("WAITING stays under guard", net.holds(2, 2), 8);
        net.ticks(8);
        Check.equal("FAIL ends it behind guard", net.holds(2, 2), 0);
        Check.equal("no more NEWS", net.told(2, 0, 0), flushed + 1);
    }

    private static void weakerCommandsEnd() {
        RingGuard manual = Check.ring(4, 0, 0);
        manual.order(1, 1, false);
        manual.order(3, 3, false);
        manual.ticks(3);
        Check.equal("of two MANUAL the lesser bridge keeps its own", manual.holds(1, 1), 4);
        Check.equal("the other one waits", manual.holds(3, 3), 8);
        Check.equal("under guard since tick 3", manual.told(3, 0, 1), 11);
        manual.order(3, 3, true);
        manual.ticks(3);
        Check.equal("FORCED ends MANUAL", manual.holds(1, 1), 8);
        Check.equal("and stays", manual.holds(3, 3) & 2, 2);
        RingGuard forced = Check.ring(4, 0, 0);
        forced.order(1, 1, true);
        forced.order(3, 3, true);
        forced.ticks(3);
        Check.equal("of two FORCED the lesser bridge keeps its own", forced.holds(1, 1), 2);
        Check.equal("the other one waits, too", forced.holds(3, 3), 8);
        RingGuard failed = Check.ring(4, 0, 0);
        failed.order(3, 3, false);
        failed.fail(1);
        failed.ticks(3);
        Check.equal("FAIL ends MANUAL", failed.holds(3, 3), 8);
    }

    private static void failAndForcedGoTogether() {
        RingGuard net = Check.ring(4, 0, 0);
        net.order(3, 3, true);
        net.fail(1);
        net.ticks(50);
        Check.equal("FAIL does not end FORCED", net.holds(3, 3), 2);
        Check.equal("FORCED does not end DOWN", net.holds(1, 1), 1);
        net.order(1, 0, false);
        Check.equal("MANUAL beside DOWN", net.holds(1, 0), 4);
        net.ticks(20);
        Check.equal("ended by FORCED, and WAITING under guard is over", net.holds(1, 0), 0);
    }

    /** Bridge 1 has both its links of ring 0 down, but is in a sub-ring, too. */
    private static void newsOfTwoFailures() {
        RingGuard net = Check.bridges(4);
        Check.way(net, 0, 0, 1, 2, 0);
        Check.way(net, 1, 0, 3, 1);
        net.owner(0, 0, 2);
        net.owner(1, 3, 3);
        net.start();
        net.fail(0);
        net.fail(1);
        int flushed = net.told(3, 1, 0);
        net.ticks(10);
        // FLUSH of both failures, and of the owner of ring 0, comes to the sub-ring's inner bridge.
        Check.equal("NEWS through the sub-ring", net.told(3, 1, 0), flushed + 3);
        Check.equal("the owner of ring 0 opened", net.holds(0, 2), 0);
        Check.equal("bridge 2 is down", net.holds(2, 1), 1);
    }

    private static void newsGoesThroughRings() {
        RingGuard net = Check.twoRings(1, 0, 4, 4);
        net.start();
        net.ticks(20);
        int[] before = new int[5];
        for (int bridge = 0; bridge < 5; bridge++) {
            before[bridge] = net.told(bridge, 0, 0);
            Check.equal("both owners' first holds are known", before[bridge], 2);
        }
        net.order(1, 1, false);
        net.ticks(20);
        for (int bridge = 0; bridge < 5; bridge++) {
            Check.equal("NEWS once to each, to bridge " + bridge, net.told(bridge, 0, 0), before[bridge] + 1);
        }
        Check.equal("FLUSH opens no owner's port of another ring", net.holds(4, 4), 16);
        net.clear(1, 0);
        net.order(1, 1, false);
        net.ticks(20);
        Check.equal("a greater number is NEWS again", net.told(3, 1, 0), before[3] + 2);
    }

    private static void subRingEnds() {
        RingGuard net = Check.bridges(5);
        Check.way(net, 0, 0, 1, 2, 0);
        Check.way(net, 1, 0, 3, 4, 1);
        net.owner(0, 2, 2);
        net.owner(1, 3, 4);
        net.start();
        Check.equal("the owners are in one ring each", net.casts(), 0);
        net.ticks(1);
        Check.equal("DONE of both", net.casts(), 4);
        net.ticks(1);
        // Ring 0: 2 go on, 2 are new. Ring 1: one goes on from 4, one ends at 0, 2 are new.
        // FLUSH: 0 and 1 hear ring 0's DONE: 0 sends one into ring 1, as its port there is one;
        // 1 too; 0 hears ring 1's DONE: 2 into ring 0.
        Check.equal("casts end at the sub-ring's end", net.casts(), 4 + 3 + 2 + 2);
        net.fail(5);
        net.ticks(3);
        Check.equal("FAIL came to the sub-ring's owner", net.holds(3, 4), 0);
        Check.equal("ring 0's owner still holds", net.holds(2, 2), 16);
    }

    private static void lostOverAFullLink() {
        RingGuard net = Check.twoRings(1, 0, 4, 4);
        net.start();
        for (int i = 0; i < 64; i++) {
            net.fail(3);
            net.heal(3);
        }
        Check.equal("64 each way, over two links", net.casts(), 128);
        Check.equal("none is lost", net.lost(), 0);
        net.fail(3);
        Check.equal("no more than that", net.casts(), 128);
        Check.equal("the 65th is, on both", net.lost(), 2);
        net.ticks(1);
        Check.equal("bridge 1 heard of 64", net.told(1, 0, 0), 1 + 64);
        Check.equal("bridge 2, too", net.told(2, 0, 0), 64);
    }

    private static void goneOverAFailedLink() {
        RingGuard net = Check.ring(3, 0, 0);
        net.ticks(1);
        net.fail(0);
        net.heal(0);
        net.ticks(1);
        Check.equal("well again in time: it arrived", net.told(1, 0, 0), 2);
        RingGuard gone = Check.ring(3, 0, 0);
        gone.ticks(1);
        gone.fail(0);
        gone.ticks(1);
        Check.equal("gone with the link", gone.told(1, 0, 0), 1);
        Check.equal("the other way", gone.told(2, 0, 0), 1);
        Check.equal("not LOST", gone.lost(), 0);
        RingGuard past = Check.ring(4, 0, 0);
        past.fail(1);
        past.ticks(1);
        Check.equal("DONE both ways, FAIL of 1 and of 2", past.casts(), 4);
        Check.equal("its own hold is all that 0 knows", past.told(0, 0, 0), 1);
        past.ticks(1);
        // DONE came to 1 and does not go on over link 1; the other three do; FAIL is sent twice.
        Check.equal("none goes on over a failed link", past.casts(), 5);
        Check.equal("FAIL bears the link that failed", past.told(0, 0, 0), 2);
    }

    private static void lostCasts() {
        RingGuard net = Check.ring(4, 0, 0);
        net.lose(1, 1000);
        net.lose(3, 1000);
        net.fail(2);
        net.ticks(100);
        Check.equal("FAIL never came", net.holds(0, 0), 16);
        Check.isTrue("they were lost", net.lost() > 40);
        Check.equal("each was one less to lose", 2000 - net.lose(1, 0) - net.lose(3, 0), net.lost());
        net.ticks(10);
        Check.equal("now it comes", net.holds(0, 0), 0);
    }
}
