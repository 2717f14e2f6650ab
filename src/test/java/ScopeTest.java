/**
 * What is of one ring stays in it: guard, clock, phase, WAITING, commands; what is of a bridge is
 * of all its rings: flushes, the number of its commands. Bridge 0 is in both rings of each net
 * here (0 1 2 with links 0 1 2, and 0 3 4 with links 3 4 5). Each test stands behind its sentence.
 */
public final class ScopeTest {
    private static final int FAIL = 0;
    private static final int FORCED = 1;

    public static void main(String[] args) {
        guardOfThisRing();
        waitingOfTheRingEnds();
        doneIsOfItsRing();
        activeInTheRing();
        ownerHearsInItsRing();
        clockOfTheRing();
        commandsOfTheRing();
        phaseOfTheRing();
        numberOfAllCommands();
        newsOfAllRings();
        openLinks();
        castsPassBlockedPorts();
        objectsAreApart();
        Check.end();
    }

    private static RingGuard net(int ownerOf0, int linkOf0, int ownerOf1, int linkOf1) {
        RingGuard net = Check.twoRings(ownerOf0, linkOf0, ownerOf1, linkOf1);
        Check.equal("start()", net.start(), 0);
        return net;
    }

    private static void failAndHeal(RingGuard net, int... links) {
        for (int link : links) {
            net.fail(link);
            net.heal(link);
        }
    }

    /** Bridge 2 blocks link 1, in one of the three ways of which casts tell. */
    private static void block(RingGuard net, int kind) {
        if (kind == FAIL) {
            net.fail(1);
        } else {
            net.order(2, 1, kind == FORCED);
        }
    }

    /** "Then, if it is under guard in the ring, nothing more." */
    private static void guardOfThisRing() {
        RingGuard net = net(0, 0, 4, 4);
        net.order(0, 3, false);
        net.clear(0, 1);
        net.fail(1);
        net.order(4, 4, true);
        net.ticks(2);
        Check.equal("FAIL in ring 0 was heard", net.holds(0, 0), 0);
        Check.equal("no guard there", net.told(0, 0, 1), 0);
        Check.equal("under guard in ring 1", net.told(0, 1, 1), 12);
        Check.equal("where FORCED was not heard", net.holds(0, 3), 8);
    }

    /** "of FAIL, FORCED and MANUAL: .. WAITING ends at all its ports of the ring" */
    private static void waitingOfTheRingEnds() {
        for (int kind = 0; kind < 3; kind++) {
            RingGuard net = net(1, 1, 3, 3);
            failAndHeal(net, 0, 2, 3);
            net.ticks(20);
            Check.equal("guard is over", net.told(0, 0, 1) + net.told(0, 1, 1), 0);
            block(net, kind);
            net.ticks(1);
            Check.equal("WAITING at link 0", net.holds(0, 0), 8);
            Check.equal("WAITING at link 2", net.holds(0, 2), 8);
            net.ticks(1);
            Check.equal("no more at link 0, kind " + kind, net.holds(0, 0), 0);
            Check.equal("no more at link 2, kind " + kind, net.holds(0, 2), 0);
            Check.equal("but at link 3, of ring 1", net.holds(0, 3), 8);
            Check.equal("no guard comes of it", net.told(0, 0, 1), 0);
        }
    }

    /** "DONE: WAITING ends at all its ports of the ring." */
    private static void doneIsOfItsRing() {
        RingGuard net = net(1, 1, 3, 3);
        failAndHeal(net, 0, 2);
        net.ticks(20);
        failAndHeal(net, 3);
        for (int i = 0; i < 100 && net.holds(1, 1) != 16; i++) {
            net.ticks(1);
        }
        Check.equal("ring 0's owner holds", net.holds(1, 1), 16);
        Check.equal("guard of ring 1 is over", net.told(0, 1, 1), 0);
        Check.equal("WAITING at links 0 and 2", net.holds(0, 0) + net.holds(0, 2), 8 + 8);
        net.ticks(1);
        Check.equal("no more", net.holds(0, 0) + net.holds(0, 2), 0);
        Check.equal("but at link 3, of ring 1", net.holds(0, 3), 8);
    }

    /** "A bridge that is active in the ring, .. and is not under guard: its ports there are no more WAITING." */
    private static void activeInTheRing() {
        RingGuard net = net(1, 1, 3, 3);
        failAndHeal(net, 0, 2, 3);
        net.order(0, 0, true);
        net.ticks(13);
        Check.equal("under guard", net.holds(0, 0) + net.holds(0, 2), 2 + 8 + 8);
        net.ticks(1);
        Check.equal("guard is over: FORCED alone", net.holds(0, 0) + net.holds(0, 2), 2);
        Check.equal("guard is over in ring 1, where it is not active", net.told(0, 1, 1), 0);
        Check.equal("WAITING there", net.holds(0, 3), 8);
    }

    /** "the owner's hold ends, and its clock does not run any more": if it is the owner of the cast's ring. */
    private static void ownerHearsInItsRing() {
        for (int kind = 0; kind < 3; kind++) {
            RingGuard own = net(0, 0, 4, 4);
            block(own, kind);
            own.ticks(1);
            Check.equal("not heard yet", own.holds(0, 0), 16);
            own.ticks(1);
            Check.equal("in its ring, kind " + kind, own.holds(0, 0), 0);
            RingGuard other = net(1, 0, 0, 3);
            block(other, kind);
            other.ticks(30);
            Check.equal("in another ring, kind " + kind, other.holds(0, 3), 16);
            other.order(0, 3, false);
            other.clear(0, 1);
            other.ticks(1);
            int clock = other.told(0, 1, 2);
            Check.isTrue("its clock runs", clock > 0);
            other.ticks(20);
            Check.equal("and runs on, kind " + kind, other.told(0, 1, 2), clock - 20);
        }
    }

    /** "HEALED: if the bridge is the owner, without hold, not active, and its clock does not run": of this ring. */
    private static void clockOfTheRing() {
        RingGuard net = net(2, 2, 0, 3);
        net.fail(4);
        net.ticks(5);
        Check.equal("ring 1's owner opened", net.holds(0, 3), 0);
        failAndHeal(net, 1);
        net.ticks(5);
        Check.isTrue("ring 0's clock runs", net.told(2, 0, 2) > 0);
        Check.equal("HEALED in ring 0 sets no clock of ring 1", net.told(0, 1, 2), 0);
        net.heal(4);
        net.ticks(2);
        Check.equal("HEALED in ring 1 does", net.told(0, 1, 2), 59);
    }

    /** "a bridge has at most one in a ring"; "a command of its own ends": in the ring where it hears. */
    private static void commandsOfTheRing() {
        RingGuard net = net(1, 0, 4, 4);
        Check.isTrue("in ring 0", net.order(0, 0, false));
        Check.isTrue("in ring 1", net.order(0, 3, false));
        Check.isFalse("both are there", net.order(0, 0, false));
        Check.equal("no guard of these", net.told(0, 0, 1) + net.told(0, 1, 1), 0);
        net.order(4, 4, true);
        net.ticks(2);
        Check.equal("FORCED in ring 1 ends that one", net.holds(0, 3), 8);
        Check.equal("not that in ring 0", net.holds(0, 0), 4);
        Check.equal("guard in ring 1", net.told(0, 1, 1), 13);
        Check.equal("none in ring 0", net.told(0, 0, 1), 0);
        Check.isFalse("nothing to clear in ring 1", net.clear(0, 1));
        Check.isTrue("but in ring 0", net.clear(0, 0));
    }

    /** "its PHASE, 0 at first and whenever the holds of one of its ports of this ring change" */
    private static void phaseOfTheRing() {
        RingGuard net = net(0, 0, 4, 4);
        net.ticks(11);
        Check.equal("nothing is on links", net.casts(), 0);
        net.lose(0, 1000);
        net.lose(2, 1000);
        net.order(0, 3, true);
        // What bridge 0 sends in ring 0 is lost a tick later: FLUSH of its command, then DONE in
        // phases 13 and 18, which are those of ticks 13 and 18.
        int[] due = {2, 2, 4, 4, 4, 4, 4, 6};
        for (int i = 0; i < due.length; i++) {
            net.ticks(1);
            Check.equal("lost behind tick " + (12 + i), net.lost(), due[i]);
        }
    }

    /** "of FORCED and MANUAL 60 and the bridge, and how many commands it was given": in all its rings. */
    private static void numberOfAllCommands() {
        RingGuard net = net(2, 1, 4, 4);
        net.ticks(20);
        net.order(0, 0, true);
        net.ticks(11);
        int told = net.told(1, 0, 0);
        net.lose(0, 1);
        net.lose(2, 1);
        net.order(0, 3, false);
        net.ticks(2);
        Check.equal("FLUSH of number 2 is lost in ring 0", net.lost(), 2);
        Check.equal("so bridge 1 was not told", net.told(1, 0, 0), told);
        // Phase 13 of ring 0: FORCED goes on, which was number 1.
        net.ticks(1);
        Check.equal("FORCED bears number 2 now", net.told(1, 0, 0), told + 1);
        net.ticks(20);
        Check.equal("once", net.told(1, 0, 0), told + 1);
    }

    /** "the greatest one of this name that the bridge was told": in whichever ring; "what = 0 how often it flushed" */
    private static void newsOfAllRings() {
        RingGuard net = net(2, 1, 4, 4);
        net.ticks(20);
        int told = net.told(0, 0, 0);
        net.order(1, 0, false);
        net.ticks(10);
        Check.equal("NEWS in ring 0", net.told(0, 0, 0), told + 1);
        net.order(3, 3, false);
        net.ticks(10);
        Check.equal("NEWS in ring 1", net.told(0, 0, 0), told + 2);
        for (int ring = 0; ring <= 5; ring++) {
            Check.equal("whichever ring is named", net.told(0, ring, 0), told + 2);
        }
        RingGuard sub = Check.bridges(4);
        Check.way(sub, 0, 0, 1, 2, 0);
        Check.way(sub, 1, 0, 3, 1);
        sub.owner(0, 2, 1);
        sub.owner(1, 3, 3);
        sub.start();
        sub.ticks(20);
        int first = sub.told(0, 0, 0);
        int second = sub.told(1, 0, 0);
        sub.order(3, 4, true);
        // FORCED comes to both ends; what each tells the other by FLUSH in ring 0 is not new.
        sub.ticks(20);
        Check.equal("once at the one end", sub.told(0, 0, 0), first + 1);
        Check.equal("once at the other", sub.told(1, 0, 0), second + 1);
    }

    /** "A link is OPEN when it has not failed and both its ports have no hold." */
    private static void openLinks() {
        for (int bridge = 0; bridge <= 1; bridge++) {
            for (int kind = 1; kind <= 2; kind++) {
                RingGuard net = Check.ring(3, 2, 2);
                Check.isTrue("open", net.joined(0, 1));
                net.order(bridge, 0, kind == FORCED);
                Check.isFalse("FORCED or MANUAL at bridge " + bridge, net.joined(0, 1));
                net.clear(bridge, 0);
                Check.isFalse("WAITING at bridge " + bridge, net.joined(0, 1));
                net.ticks(20);
                Check.isTrue("open again", net.joined(0, 1));
            }
        }
        RingGuard failed = Check.ring(3, 2, 2);
        failed.fail(0);
        Check.isFalse("failed", failed.joined(0, 1));
        failed.heal(0);
        Check.isFalse("WAITING at both", failed.joined(0, 1));
        for (int link = 0; link <= 2; link += 2) {
            RingGuard net = Check.ring(3, 0, link);
            net.fail(1);
            Check.isFalse("OWNER at the link's " + (link == 0 ? "first" : "second"), net.joined(1, 2));
            net.ticks(5);
            Check.isTrue("open without it", net.joined(1, 2));
        }
    }

    /** "A port is BLOCKED (for data; casts pass) as long as it has a hold" */
    private static void castsPassBlockedPorts() {
        for (int from = 0; from <= 1; from++) {
            for (int kind = 1; kind <= 2; kind++) {
                RingGuard net = Check.ring(3, 2, 1);
                net.order(from, 0, kind == FORCED);
                net.lose(1, 1000);
                net.lose(2, 1000);
                int to = 1 - from;
                net.ticks(1);
                Check.equal("not there yet", net.told(to, 0, 0), 0);
                net.ticks(1);
                Check.equal("over the blocked port of bridge " + from, net.told(to, 0, 0), 1);
                net.order(to, 0, kind == FORCED);
                net.order(from, 0, kind != FORCED);
                net.ticks(2);
                Check.equal("over two blocked ports", net.told(to, 0, 0), 3);
            }
        }
        RingGuard owner = Check.ring(3, 0, 0);
        owner.lose(2, 1000);
        owner.ticks(2);
        Check.equal("DONE over the owner's port", owner.told(1, 0, 0), 1);
        goOnOverBlockedPorts();
        RingGuard waiting = Check.ring(3, 0, 2);
        failAndHeal(waiting, 0);
        waiting.lose(1, 1000);
        waiting.lose(2, 1000);
        waiting.order(1, 1, true);
        waiting.ticks(2);
        Check.equal("FORCED over two that are WAITING", waiting.told(0, 0, 0), 3);
    }

    /** Bridge 3 hands DONE of bridge 0 on to bridge 2; then bridge 1 FLUSH of bridge 0, to bridge 2. */
    private static void goOnOverBlockedPorts() {
        for (int kind = 1; kind <= 2; kind++) {
            for (int waiting = 0; waiting <= 1; waiting++) {
                RingGuard net = Check.ring(4, 0, 0);
                net.lose(0, 1000);
                net.order(3, 2, kind == FORCED);
                if (waiting == 1) {
                    net.clear(3, 0);
                }
                net.ticks(2);
                Check.equal("NEWS of bridge 3, if it has its command still", net.told(2, 0, 0), 1 - waiting);
                net.ticks(1);
                Check.equal("DONE went on over its blocked port", net.told(2, 0, 0), 2 - waiting);
            }
        }
        RingGuard owned = net(1, 1, 4, 4);
        owned.ticks(20);
        int told = owned.told(2, 0, 0);
        owned.lose(2, 1000);
        owned.order(0, 3, true);
        owned.ticks(1);
        Check.equal("FLUSH is at the owner", owned.told(2, 0, 0), told);
        owned.ticks(1);
        Check.equal("and went on over its port", owned.told(2, 0, 0), told + 1);
        Check.equal("which it holds", owned.holds(1, 1), 16);
    }

    /** "A new object: No bridges, no links, not started.": whatever others have. */
    private static void objectsAreApart() {
        RingGuard net = net(0, 0, 4, 4);
        net.host(0, 1);
        net.host(1, 4);
        net.send(0, 1, 0);
        net.fail(1);
        net.ticks(7);
        String before = Seen.of(net);
        RingGuard other = new RingGuard();
        Check.refusesArgument("no bridge", () -> other.told(0, 0, 0));
        Check.equal("no links", other.start(), 7);
        Check.refusesState("not started", () -> other.ticks(1));
        Check.equal("bridge()", other.bridge(), 0);
        Check.equal("bridge()", other.bridge(), 1);
        Check.equal("bridge()", other.bridge(), 2);
        Check.way(other, 0, 0, 1, 2, 0);
        other.owner(0, 0, 0);
        Check.equal("start()", other.start(), 0);
        Check.equal("no host is anywhere", other.host(0, 0), RingGuard.NONE);
        other.fail(2);
        Check.equal("ticks()", other.ticks(100), 100);
        Check.equal("the first object is as it was", Seen.of(net), before);
        Check.equal("and goes on", net.ticks(1), 8);
    }
}
