/** Promises 18, 21, 22: joined, circles, apart. */
public final class JoinedTest {
    public static void main(String[] args) {
        joined();
        circles();
        apartNeedsOneFailureARing();
        apartNeedsNoCommand();
        apartNeedsCalm();
        Check.end();
    }

    private static void joined() {
        RingGuard net = Check.bridges(6);
        Check.way(net, 0, 0, 1, 2, 0);
        Check.way(net, 1, 3, 4);
        Check.isTrue("links are open before start()", net.joined(0, 2));
        Check.isTrue("in the other piece", net.joined(4, 3));
        Check.isFalse("not between them", net.joined(2, 3));
        Check.isFalse("a bridge without links", net.joined(5, 0));
        Check.isTrue("to itself", net.joined(5, 5));
        Check.refusesArgument("joined(-1, 0)", () -> net.joined(-1, 0));
        Check.refusesArgument("joined(6, 0)", () -> net.joined(6, 0));
        Check.refusesArgument("joined(0, -1)", () -> net.joined(0, -1));
        Check.refusesArgument("joined(0, 6)", () -> net.joined(0, 6));
        net.link(4, 5, 1);
        Check.isTrue("over a link that came just now", net.joined(3, 5));
        RingGuard ring = Check.ring(4, 0, 0);
        Check.isTrue("round the owner's port", ring.joined(0, 1));
        ring.fail(2);
        Check.isFalse("the owner does not know yet", ring.joined(2, 3));
        Check.isTrue("this side", ring.joined(1, 2));
        ring.ticks(5);
        Check.isTrue("now it does", ring.joined(2, 3));
        ring.order(1, 1, true);
        Check.isFalse("a command blocks, too", ring.joined(1, 2));
    }

    private static void circles() {
        RingGuard net = Check.twoRings(1, 0, 3, 3);
        Check.isTrue("open links are a circle before start()", net.joined(0, 4));
        Check.equal("which is not counted", net.circles(), 0);
        net.start();
        net.ticks(100);
        for (int link = 0; link < 6; link++) {
            net.fail(link);
            net.ticks(1 + 7 * link);
            net.heal(link);
            net.ticks(1 + 13 * link);
        }
        for (int bridge = 0; bridge < 3; bridge++) {
            net.order(bridge, bridge, bridge == 1);
            net.ticks(9);
            net.clear(bridge, 0);
            net.ticks(9);
        }
        net.ticks(200);
        Check.equal("each ring is cut always", net.circles(), 0);
        Check.equal("and never for long at two places", net.apart(), 0);
    }

    private static void apartNeedsOneFailureARing() {
        RingGuard net = Check.ring(4, 0, 0);
        net.fail(1);
        net.fail(3);
        net.ticks(200);
        net.ticks(200);
        Check.isFalse("two pieces", net.joined(0, 2));
        Check.equal("as two links of one ring have failed", net.apart(), 0);
        RingGuard two = Check.twoRings(1, 0, 3, 3);
        two.start();
        two.fail(1);
        two.fail(5);
        two.ticks(200);
        two.ticks(200);
        Check.isTrue("one in each ring: joined", two.joined(2, 4));
        Check.equal("never apart in calm times", two.apart(), 0);
    }

    private static void apartNeedsNoCommand() {
        RingGuard net = Check.ring(4, 0, 0);
        net.order(3, 3, true);
        net.fail(1);
        net.ticks(200);
        net.ticks(200);
        Check.isFalse("a command and a failure", net.joined(0, 3));
        Check.equal("as there is a command", net.apart(), 0);
        net.clear(3, 0);
        net.ticks(200);
        Check.isTrue("joined without it", net.joined(0, 3));
        Check.equal("in time", net.apart(), 0);
    }

    private static void apartNeedsCalm() {
        RingGuard net = Check.ring(4, 0, 0);
        net.lose(1, 1000);
        net.lose(3, 1000);
        net.fail(2);
        net.ticks(200);
        net.ticks(200);
        Check.isFalse("FAIL is lost again and again", net.joined(2, 3));
        Check.equal("so times are not calm", net.apart(), 0);
    }
}
