/** Promises 12, 13, 14, 17: host, send, visits, learned. */
public final class FramesTest {
    public static void main(String[] args) {
        host();
        sendRefuses();
        floodThenKnownWay();
        tags();
        age();
        flushForgets();
        hostForgets();
        knownWayThatIsClosed();
        learned();
        Check.end();
    }

    private static void host() {
        RingGuard laid = Check.twoRings(1, 0, 3, 3);
        Check.refusesState("host() before start()", () -> laid.host(0, 0));
        Check.refusesArgument("wrong host() before start()", () -> laid.host(64, 0));
        RingGuard net = Check.ring(3, 0, 0);
        Check.refusesArgument("host(-1, 0)", () -> net.host(-1, 0));
        Check.refusesArgument("host(64, 0)", () -> net.host(64, 0));
        Check.refusesArgument("host(0, -1)", () -> net.host(0, -1));
        Check.refusesArgument("host(0, 3)", () -> net.host(0, 3));
        Check.equal("nowhere before", net.host(63, 1), RingGuard.NONE);
        Check.equal("where it was", net.host(63, 2), 1);
        Check.equal("there already", net.host(63, 2), 2);
    }

    private static void sendRefuses() {
        RingGuard net = Check.ring(3, 0, 0);
        net.host(0, 0);
        net.host(1, 1);
        net.send(0, 1, 0);
        Check.equal("two links to go", net.visits(), 1);
        Check.refusesArgument("send(-1, 0, 0)", () -> net.send(-1, 0, 0));
        Check.refusesArgument("send(0, 64, 0)", () -> net.send(0, 64, 0));
        Check.refusesArgument("send(0, 1, -1)", () -> net.send(0, 1, -1));
        Check.refusesArgument("send(0, 1, 4)", () -> net.send(0, 1, 4));
        Check.refusesArgument("send(0, 0, 0)", () -> net.send(0, 0, 0));
        Check.refusesArgument("to a host that is nowhere", () -> net.send(0, 2, 0));
        Check.refusesArgument("from one that is nowhere", () -> net.send(2, 0, 0));
        Check.equal("visits() stays", net.visits(), 1);
        RingGuard laid = Check.twoRings(1, 0, 3, 3);
        Check.refusesArgument("all are nowhere before start()", () -> laid.send(0, 1, 0));
    }

    /** Ring 0 1 2 3, link 0 (0-1) held by 0: the line is 1 2 3 0. */
    private static void floodThenKnownWay() {
        RingGuard net = Check.ring(4, 0, 0);
        net.host(0, 2);
        net.host(1, 0);
        Check.equal("flooded", net.send(0, 1, 0), 1);
        Check.equal("each link once", net.visits(), 1);
        Check.equal("at 1, the other way", net.learned(1, 0, 0), 1);
        Check.equal("at 3", net.learned(3, 0, 0), 2);
        Check.equal("at 0, where it was delivered", net.learned(0, 0, 0), 3);
        Check.equal("not at its own bridge", net.learned(2, 0, 0), RingGuard.NONE);
        Check.equal("back over the known way", net.send(1, 0, 0), 1);
        Check.equal("bridge 3 learned", net.learned(3, 0, 1), 3);
        Check.equal("bridge 2 learned", net.learned(2, 0, 1), 2);
        Check.equal("bridge 1 did not see it", net.learned(1, 0, 1), RingGuard.NONE);
        Check.equal("now bridge 1 sees none of 0's either", net.send(0, 1, 0), 1);
        net.host(2, 3);
        net.host(3, 3);
        Check.equal("at the same bridge", net.send(2, 3, 0), 1);
        Check.equal("over no link", net.visits(), 0);
        Check.equal("nobody learned", net.learned(2, 0, 2), RingGuard.NONE);
    }

    private static void tags() {
        RingGuard net = Check.ring(4, 0, 0);
        net.host(0, 2);
        net.host(1, 0);
        net.send(0, 1, 3);
        Check.equal("with its tag", net.learned(0, 3, 0), 3);
        for (int tag = 0; tag < 3; tag++) {
            Check.equal("not with tag " + tag, net.learned(0, tag, 0), RingGuard.NONE);
        }
        net.send(1, 0, 3);
        net.host(2, 3);
        net.send(2, 1, 3);
        Check.equal("bridge 3 knew the way with tag 3", net.learned(2, 3, 2), RingGuard.NONE);
        net.send(2, 1, 2);
        Check.equal("flooded with another tag", net.learned(2, 2, 2), 2);
    }

    private static void age() {
        RingGuard net = Check.ring(3, 0, 0);
        net.ticks(50);
        net.host(0, 0);
        net.host(1, 1);
        net.send(0, 1, 0);
        net.ticks(200);
        net.ticks(99);
        Check.equal("299 ticks ago", net.learned(2, 0, 0), 2);
        net.ticks(1);
        Check.equal("300 ticks ago", net.learned(2, 0, 0), RingGuard.NONE);
        net.send(0, 1, 0);
        net.ticks(200);
        net.send(0, 1, 0);
        net.ticks(200);
        Check.equal("learned anew in between", net.learned(2, 0, 0), 2);
    }

    private static void flushForgets() {
        RingGuard net = Check.ring(4, 0, 0);
        net.ticks(20);
        net.host(0, 2);
        net.host(1, 0);
        net.send(0, 1, 0);
        net.order(3, 3, false);
        Check.equal("its own NEWS", net.learned(3, 0, 0), RingGuard.NONE);
        Check.equal("the others know still", net.learned(0, 0, 0), 3);
        net.ticks(2);
        Check.equal("heard by 0", net.learned(0, 0, 0), RingGuard.NONE);
        net.ticks(2);
        Check.equal("and by 1", net.learned(1, 0, 0), RingGuard.NONE);
        Check.equal("the new way", net.send(0, 1, 0), 1);
        Check.equal("over the owner's link", net.learned(0, 0, 0), 0);
        net.ticks(100);
        Check.equal("the same command later is no NEWS", net.learned(0, 0, 0), 0);
    }

    private static void hostForgets() {
        RingGuard net = Check.ring(4, 0, 0);
        net.host(0, 2);
        net.host(1, 0);
        for (int tag = 0; tag < 4; tag++) {
            net.send(0, 1, tag);
            net.send(1, 0, tag);
        }
        net.host(0, 2);
        for (int tag = 0; tag < 4; tag++) {
            for (int bridge = 0; bridge < 4; bridge++) {
                Check.equal("all of it is gone", net.learned(bridge, tag, 0), RingGuard.NONE);
            }
            Check.equal("not of another host", net.learned(3, tag, 1), 3);
        }
    }

    /** A known way goes nowhere when its link is closed, as long as it is known. */
    private static void knownWayThatIsClosed() {
        RingGuard net = Check.ring(4, 0, 0);
        net.ticks(20);
        net.host(0, 2);
        net.host(1, 0);
        net.send(0, 1, 0);
        net.send(1, 0, 0);
        net.order(3, 2, true);
        Check.equal("bridge 0 knows the way, 3 forgot it", net.send(1, 0, 0), 0);
        Check.equal("one link", net.visits(), 1);
        Check.equal("bridge 2 knows the link that is closed", net.send(0, 1, 0), 0);
        Check.equal("no link", net.visits(), 0);
        net.ticks(10);
        Check.equal("behind the flush it finds the way", net.send(0, 1, 0), 1);
        net.host(1, 3);
        // Bridges 0 and 1 know nothing of host 1 now; bridge 3 is the end of the line 2 1 0 3.
        Check.equal("a host that moved", net.send(0, 1, 0), 1);
        Check.equal("bridge 3 learned its link", net.learned(3, 0, 0), 3);
    }

    private static void learned() {
        RingGuard laid = Check.twoRings(1, 0, 3, 3);
        Check.equal("learned() before start()", laid.learned(0, 0, 0), RingGuard.NONE);
        Check.refusesArgument("learned(-1, 0, 0)", () -> laid.learned(-1, 0, 0));
        Check.refusesArgument("learned(5, 0, 0)", () -> laid.learned(5, 0, 0));
        Check.refusesArgument("learned(0, -1, 0)", () -> laid.learned(0, -1, 0));
        Check.refusesArgument("learned(0, 4, 0)", () -> laid.learned(0, 4, 0));
        Check.refusesArgument("learned(0, 0, -1)", () -> laid.learned(0, 0, -1));
        Check.refusesArgument("learned(0, 0, 64)", () -> laid.learned(0, 0, 64));
    }
}
