/**
 * Promises 12 to 14, 17 and 18 at their edges: hosts, tags, frames and for how long something
 * learned is known. Each test stands behind the sentence that it is of.
 */
public final class FrameEdgesTest {
    private static final int NONE = RingGuard.NONE;

    public static void main(String[] args) {
        firstAndLastHost();
        noneForNone();
        firstAndLastTag();
        nowhere();
        sameBridge();
        noFrameYet();
        twoHundredAndNinetyNine();
        frameOfThreeHundred();
        learnedInstead();
        neverBack();
        deliveredIsTheEnd();
        justOpenLinks();
        allBridgesForgetAHost();
        flushForgetsAll();
        knownOverAClosedLink();
        takesNoTime();
        joinedEdges();
        Check.end();
    }

    /** Bridges 0 1 2 3 in a ring whose owner 0 holds link 0: for data the line 1 2 3 0. */
    private static RingGuard line() {
        RingGuard net = Check.ring(4, 0, 0);
        net.ticks(20);
        return net;
    }

    /** "HOSTS 0 .. 63 are put to bridges" */
    private static void firstAndLastHost() {
        RingGuard net = line();
        Check.refusesArgument("host -1", () -> net.host(-1, 0));
        Check.refusesArgument("host 64", () -> net.host(64, 0));
        Check.refusesArgument("bridge -1", () -> net.host(0, -1));
        Check.refusesArgument("bridge 4", () -> net.host(0, 4));
        Check.equal("host 0 to the first bridge", net.host(0, 0), NONE);
        Check.equal("host 63 to the last bridge", net.host(63, 3), NONE);
        Check.equal("from the first to the last", net.send(0, 63, 0), 1);
        Check.equal("learned of host 0", net.learned(3, 0, 0), 3);
        Check.equal("from the last to the first", net.send(63, 0, 0), 1);
        Check.equal("learned of host 63", net.learned(0, 0, 63), 3);
        Check.refusesArgument("learned of host 64", () -> net.learned(0, 0, 64));
        Check.refusesArgument("learned of host -1", () -> net.learned(0, 0, -1));
        for (int host = 1; host < 63; host++) {
            Check.equal("all there can be", net.host(host, host % 4), NONE);
        }
        for (int host = 0; host < 63; host++) {
            Check.equal("each to the next", net.send(host, host + 1, 2), 1);
        }
        Check.equal("each was learned", net.learned(2, 2, 61), 1);
    }

    /** "that where it was, NONE for none" */
    private static void noneForNone() {
        RingGuard net = line();
        Check.equal("nowhere", net.host(7, 0), NONE);
        Check.equal("at bridge 0", net.host(7, 3), 0);
        Check.equal("at bridge 3", net.host(7, 3), 3);
        Check.refusesArgument("a refused one", () -> net.host(7, 4));
        Check.equal("is still there", net.host(7, 1), 3);
    }

    /** "TAGS are 0 .. 3." */
    private static void firstAndLastTag() {
        RingGuard net = line();
        net.host(0, 1);
        net.host(1, 0);
        for (int tag = 0; tag <= 3; tag++) {
            Check.equal("nobody knows with tag " + tag, net.learned(0, tag, 0), NONE);
            Check.equal("tag " + tag, net.send(0, 1, tag), 1);
            Check.equal("known with tag " + tag, net.learned(0, tag, 0), 3);
        }
        Check.refusesArgument("send() with tag -1", () -> net.send(0, 1, -1));
        Check.refusesArgument("send() with tag 4", () -> net.send(0, 1, 4));
        Check.refusesArgument("learned() with tag -1", () -> net.learned(0, -1, 0));
        Check.refusesArgument("learned() with tag 4", () -> net.learned(0, 4, 0));
    }

    /** "Illegal argument: also if they are the same, or one is nowhere" */
    private static void nowhere() {
        RingGuard net = line();
        Check.refusesArgument("both are nowhere", () -> net.send(0, 1, 0));
        net.host(0, 0);
        Check.refusesArgument("to one that is nowhere", () -> net.send(0, 1, 0));
        Check.refusesArgument("from one that is nowhere", () -> net.send(1, 0, 0));
        Check.refusesArgument("to itself", () -> net.send(0, 0, 0));
        Check.refusesArgument("one that is nowhere to itself", () -> net.send(1, 1, 0));
        net.host(1, 0);
        Check.equal("both are somewhere", net.send(1, 0, 0), 1);
        Check.refusesArgument("to itself still", () -> net.send(1, 1, 0));
    }

    /** "A FRAME .. is at its host's bridge first. .. At the bridge of the other host it is delivered." */
    private static void sameBridge() {
        RingGuard net = line();
        net.host(0, 2);
        net.host(1, 2);
        net.host(2, 0);
        net.send(0, 2, 0);
        Check.equal("over links", net.visits(), 1);
        Check.equal("at one bridge", net.send(0, 1, 0), 1);
        Check.equal("over no link", net.visits(), 0);
        for (int bridge = 0; bridge < 4; bridge++) {
            Check.equal("nobody learned host 1", net.learned(bridge, 0, 1), NONE);
        }
        net.fail(1);
        net.fail(2);
        Check.equal("at a bridge that is alone", net.send(0, 1, 0), 1);
    }

    /** "The greatest number of times that the last frame went over one link in one direction." */
    private static void noFrameYet() {
        Check.equal("before start()", new RingGuard().visits(), 0);
        RingGuard net = line();
        Check.equal("no frame yet", net.visits(), 0);
        net.host(0, 2);
        net.host(1, 0);
        net.send(0, 1, 0);
        Check.equal("the last frame", net.visits(), 1);
        Check.refusesArgument("a refused frame", () -> net.send(0, 2, 0));
        Check.equal("is none", net.visits(), 1);
        net.order(2, 1, true);
        net.order(3, 2, true);
        Check.equal("a frame that goes nowhere", net.send(0, 1, 1), 0);
        Check.equal("is the last one, too", net.visits(), 0);
    }

    /** "(learned less than 300 ticks ago); NONE if it does not" */
    private static void twoHundredAndNinetyNine() {
        RingGuard net = line();
        net.host(0, 2);
        net.host(1, 0);
        Check.equal("nothing learned yet", net.learned(3, 0, 0), NONE);
        net.send(0, 1, 0);
        Check.equal("learned just now", net.learned(3, 0, 0), 2);
        net.ticks(200);
        net.ticks(99);
        Check.equal("299 ticks ago", net.learned(3, 0, 0), 2);
        net.ticks(1);
        Check.equal("300 ticks ago", net.learned(3, 0, 0), NONE);
        net.send(0, 1, 0);
        Check.equal("learned again", net.learned(3, 0, 0), 2);
        RingGuard early = Check.ring(4, 0, 0);
        early.host(0, 3);
        early.host(1, 0);
        early.send(0, 1, 0);
        Check.equal("learned before the first tick", early.learned(0, 0, 0), 3);
    }

    /** "if the bridge knows where the other host is (learned less than 300 ticks ago) .. over this link alone" */
    private static void frameOfThreeHundred() {
        for (int ago = 299; ago <= 300; ago++) {
            RingGuard net = line();
            net.host(0, 2);
            net.host(1, 0);
            net.send(1, 0, 0);
            net.ticks(200);
            net.ticks(ago - 200);
            Check.equal("delivered", net.send(0, 1, 0), 1);
            int due = ago == 299 ? NONE : 1;
            Check.equal("bridge 1 sees it only if it is flooded", net.learned(1, 0, 0), due);
        }
    }

    /** "the bridge learns for the tag that the sender is over this link (instead of what it knew), and when" */
    private static void learnedInstead() {
        RingGuard net = line();
        net.host(0, 2);
        net.host(1, 0);
        net.send(0, 1, 0);
        net.ticks(200);
        net.send(0, 1, 0);
        net.ticks(200);
        Check.equal("learned 400 and 200 ticks ago", net.learned(3, 0, 0), 2);
        net.ticks(99);
        Check.equal("299 ticks ago", net.learned(0, 0, 0), 3);
        net.ticks(1);
        Check.equal("300 ticks ago", net.learned(0, 0, 0), NONE);
        // FORCED of bridge 1 makes the line 2 3 0 1, then FORCED of bridge 3 the line 3 2 1 0.
        net.send(0, 1, 0);
        net.order(1, 1, true);
        net.ticks(10);
        net.send(0, 1, 0);
        Check.equal("bridge 0 learned it anew", net.learned(0, 0, 0), 3);
        net.clear(1, 0);
        net.order(3, 3, true);
        net.ticks(40);
        Check.equal("flooded the other way", net.send(0, 1, 0), 1);
        Check.equal("over link 0 now", net.learned(0, 0, 0), 0);
    }

    /**
     * "never over that over which it came": MANUAL of bridge 1 made 0, 1 and 2 forget in tick 2,
     * not yet 3, which knows host 1 to be over link 2, whence the frame comes.
     */
    private static void neverBack() {
        RingGuard net = line();
        net.host(0, 2);
        net.host(1, 1);
        net.host(2, 0);
        net.send(1, 2, 0);
        net.order(1, 0, false);
        net.ticks(2);
        Check.equal("bridge 3 knows host 1", net.learned(3, 0, 1), 2);
        Check.equal("bridge 2 does not", net.learned(2, 0, 1), NONE);
        Check.equal("one copy", net.send(0, 1, 0), 1);
        Check.equal("bridge 3 had one, too", net.learned(3, 0, 0), 2);
        Check.equal("which went nowhere", net.learned(0, 0, 0), NONE);
        Check.equal("each link once", net.visits(), 1);
    }

    /** "At the bridge of the other host it is delivered. Otherwise .. it goes on" */
    private static void deliveredIsTheEnd() {
        RingGuard net = line();
        net.host(0, 1);
        net.host(1, 2);
        Check.equal("one copy", net.send(0, 1, 0), 1);
        Check.equal("bridge 2 learned", net.learned(2, 0, 0), 1);
        Check.equal("bridge 3 had none", net.learned(3, 0, 0), NONE);
    }

    /** "always just over OPEN links" */
    private static void justOpenLinks() {
        RingGuard net = line();
        net.host(0, 0);
        net.host(1, 1);
        Check.equal("not over link 0, which the owner holds", net.send(0, 1, 0), 1);
        Check.equal("but the long way", net.learned(1, 0, 0), 1);
        net.fail(2);
        net.host(0, 0);
        Check.equal("not over a link that has failed", net.send(0, 1, 1), 0);
        Check.equal("as far as it can", net.learned(3, 1, 0), 3);
        net.ticks(10);
        Check.equal("over link 0, which is open now", net.send(0, 1, 2), 1);
        Check.equal("the short way", net.learned(1, 2, 0), 0);
        net.heal(2);
        net.order(1, 0, false);
        Check.equal("not over a port with a command, nor one that is WAITING", net.send(0, 1, 3), 0);
    }

    /** "What all bridges learned of it is gone." */
    private static void allBridgesForgetAHost() {
        RingGuard net = line();
        net.host(0, 2);
        net.host(1, 0);
        for (int tag = 0; tag <= 3; tag++) {
            net.send(0, 1, tag);
            net.send(1, 0, tag);
        }
        Check.refusesArgument("a refused one", () -> net.host(0, 4));
        Check.equal("leaves all", net.learned(1, 3, 0), 1);
        net.host(0, 2);
        for (int tag = 0; tag <= 3; tag++) {
            for (int bridge = 0; bridge < 4; bridge++) {
                Check.equal("gone, also if it stays", net.learned(bridge, tag, 0), NONE);
            }
            Check.equal("not what is known of others", net.learned(2, tag, 1), 2);
        }
    }

    /** "the bridge FLUSHES (all that it learned is gone)" */
    private static void flushForgetsAll() {
        RingGuard net = line();
        net.host(0, 1);
        net.host(63, 0);
        for (int tag = 0; tag <= 3; tag++) {
            net.send(0, 63, tag);
            net.send(63, 0, tag);
        }
        net.fail(2);
        for (int tag = 0; tag <= 3; tag++) {
            for (int bridge = 2; bridge <= 3; bridge++) {
                Check.equal("gone at both ends", net.learned(bridge, tag, 0), NONE);
                Check.equal("of all hosts", net.learned(bridge, tag, 63), NONE);
            }
            Check.equal("not elsewhere", net.learned(1, tag, 63), 1);
        }
    }

    /** "it goes on over this link alone": nowhere, if that is not open. */
    private static void knownOverAClosedLink() {
        RingGuard net = line();
        net.host(0, 1);
        net.host(1, 0);
        net.send(1, 0, 0);
        net.order(2, 1, true);
        Check.equal("bridge 1 knows link 1, which is closed", net.send(0, 1, 0), 0);
        Check.equal("over no link", net.visits(), 0);
        net.ticks(2);
        Check.equal("it forgot, but link 0 is not open yet", net.send(0, 1, 0), 0);
        net.ticks(1);
        Check.equal("link 0 is open", net.send(0, 1, 0), 1);
        Check.equal("the short way", net.learned(0, 0, 0), 0);
    }

    /** "All of this takes no time" */
    private static void takesNoTime() {
        RingGuard net = line();
        net.host(0, 1);
        net.host(1, 0);
        int casts = net.casts();
        for (int i = 0; i < 50; i++) {
            net.send(i % 2, 1 - i % 2, i % 4);
        }
        Check.equal("no tick was gone", net.ticks(1), 21);
        Check.equal("no cast came of it", casts, net.casts());
    }

    /** "Whether one can go from a bridge to another one over open links." */
    private static void joinedEdges() {
        RingGuard alone = Check.bridges(1);
        Check.isTrue("one bridge, no link", alone.joined(0, 0));
        Check.refusesArgument("no other one", () -> alone.joined(0, 1));
        Check.refusesArgument("nor before it", () -> alone.joined(-1, 0));
        RingGuard two = Check.bridges(2);
        Check.isFalse("two bridges, no link", two.joined(0, 1));
        two.link(1, 0, 5);
        Check.isTrue("a link", two.joined(0, 1));
        RingGuard net = Check.ring(48, 0, 0);
        Check.isTrue("the first to the last", net.joined(0, 47));
        Check.isTrue("round all of it", net.joined(0, 1));
        net.fail(24);
        Check.isFalse("two pieces", net.joined(24, 25));
        Check.isTrue("the one", net.joined(1, 24));
        Check.isTrue("the other", net.joined(25, 0));
        net.ticks(23);
        Check.isFalse("the owner does not know yet", net.joined(1, 0));
        net.ticks(1);
        Check.isTrue("one piece", net.joined(1, 0) && net.joined(24, 25));
    }
}
