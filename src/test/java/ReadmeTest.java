/** The example of README.md, line by line, with the answers that it tells. */
public final class ReadmeTest {
    public static void main(String[] args) {
        RingGuard net = new RingGuard();
        int a = net.bridge(), b = net.bridge(), c = net.bridge();
        int ab = net.link(a, b, 0);
        int bc = net.link(b, c, 0);
        int ca = net.link(c, a, 0);
        net.owner(0, a, ab);
        int wrong = net.start();
        Check.equal("start()", wrong, 0);
        int before = net.holds(a, ab);
        Check.equal("the owner's hold", before, 16);
        net.host(0, a);
        net.host(1, b);
        int copies = net.send(0, 1, 0);
        Check.equal("copies", copies, 1);
        Check.equal("by way of c", net.learned(c, 0, 0), ca);
        int over = net.learned(b, 0, 0);
        Check.equal("over which link", over, bc);
        net.fail(bc);
        boolean cut = net.joined(b, c);
        Check.isFalse("not joined yet", cut);
        net.ticks(10);
        boolean healed = net.joined(b, c);
        Check.isTrue("joined again", healed);
        int again = net.send(0, 1, 0);
        Check.equal("copies again", again, 1);
        Check.equal("over a-b", net.learned(b, 0, 0), ab);
        net.heal(bc);
        net.ticks(100);
        int after = net.holds(a, ab);
        Check.equal("the owner's hold again", after, 16);
        Check.end();
    }
}
