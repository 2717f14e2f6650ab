import java.util.function.IntConsumer;
import java.util.function.Supplier;
import java.util.function.UnaryOperator;

/**
 * "In all calls illegal argument: a number is out of its bounds, there is no such bridge, link,
 * ring, host. Illegal state: start() was accepted already .. or was not yet .. Of several
 * exceptions the one named first is thrown; a call that throws changes nothing."
 *
 * Each refused call on objects at seven times of their life: what it throws, that all that can be
 * seen is as before, and that the object answers from then on as one without refused calls.
 */
public final class RefusalsTest {
    private final String time;
    private final RingGuard net;
    private final String before;

    private RefusalsTest(String time, RingGuard net) {
        this.time = time;
        this.net = net;
        before = Seen.of(net);
    }

    private interface Refusals {
        void on(RefusalsTest test, RingGuard net);
    }

    public static void main(String[] args) {
        look("new", RingGuard::new, RefusalsTest::ofNew, RefusalsTest::layOutAndStart);
        look("laid out", RefusalsTest::laidOut, RefusalsTest::ofLaidOut, RefusalsTest::startAndRun);
        look("refused start", RefusalsTest::refusedStart, RefusalsTest::ofLaidOut, RefusalsTest::mendAndRun);
        look("full", RefusalsTest::full, RefusalsTest::ofFull, RefusalsTest::tryStart);
        look("started", RefusalsTest::started, RefusalsTest::ofStarted, RefusalsTest::run);
        look("19999 ticks", () -> after(19999), RefusalsTest::of19999, RefusalsTest::lastTick);
        look("20000 ticks", () -> after(20000), RefusalsTest::of20000, RefusalsTest::runWithoutTicks);
        Check.end();
    }

    private static void look(String time, Supplier<RingGuard> make, Refusals refusals, UnaryOperator<Life> live) {
        RingGuard net = make.get();
        refusals.on(new RefusalsTest(time, net), net);
        String with = live.apply(new Life(net)).text();
        String without = live.apply(new Life(make.get())).text();
        Check.equal(time + ": life behind refused calls", with, without);
    }

    private void argument(String what, Runnable call) {
        Check.refusesArgument(time + ": " + what, call);
        Check.equal(time + ": all behind " + what, Seen.of(net), before);
    }

    private void state(String what, Runnable call) {
        Check.refusesState(time + ": " + what, call);
        Check.equal(time + ": all behind " + what, Seen.of(net), before);
    }

    /** All wrong sides of 0 .. last. */
    private void outside(int last, String what, IntConsumer call) {
        outside(0, last, what, call);
    }

    private void outside(int first, int last, String what, IntConsumer call) {
        int[] wrong = {Integer.MIN_VALUE, first - 1, last + 1, Integer.MAX_VALUE};
        for (int value : wrong) {
            argument(what.replace("?", "" + value), () -> call.accept(value));
        }
    }

    // The objects.

    /** Five bridges, six links, two rings, owners 1 and 3. */
    private static RingGuard laidOut() {
        return Check.twoRings(1, 0, 3, 3);
    }

    /** As laidOut(), but ring 1 has a wrong owner, which start() told. */
    private static RingGuard refusedStart() {
        RingGuard net = Check.twoRings(1, 0, 3, 5);
        Check.equal("a start that is not accepted", net.start(), 2);
        return net;
    }

    /** 48 bridges, 60 links: ten in each ring. */
    private static RingGuard full() {
        RingGuard net = Check.bridges(48);
        for (int i = 0; i < 60; i++) {
            net.link(i % 48, (i + 1) % 48, i / 10);
        }
        return net;
    }

    /** Two rings with something everywhere: holds, guards, a clock, casts, losses, hosts, ways. */
    private static RingGuard started() {
        RingGuard net = laidOut();
        net.start();
        net.host(0, 2);
        net.host(1, 4);
        net.host(62, 1);
        net.lose(2, 3);
        net.order(3, 3, false);
        net.fail(1);
        net.ticks(6);
        net.heal(1);
        net.ticks(4);
        net.clear(3, 1);
        net.ticks(2);
        net.fail(5);
        net.lose(0, 1000);
        net.order(0, 0, true);
        net.ticks(1);
        net.send(0, 62, 3);
        net.send(0, 1, 0);
        return net;
    }

    private static RingGuard after(int ticks) {
        RingGuard net = laidOut();
        net.start();
        net.host(0, 2);
        net.host(1, 4);
        for (int left = ticks; left > 0; left -= 200) {
            net.ticks(Math.min(left, 200));
        }
        net.send(0, 1, 0);
        return net;
    }

    // What is refused.

    private static void ofNew(RefusalsTest test, RingGuard net) {
        test.argument("link(0, 1, 0)", () -> net.link(0, 1, 0));
        test.argument("owner(0, 0, 0)", () -> net.owner(0, 0, 0));
        test.argument("fail(0)", () -> net.fail(0));
        test.argument("heal(0)", () -> net.heal(0));
        test.argument("lose(0, 1)", () -> net.lose(0, 1));
        test.argument("order(0, 0, true)", () -> net.order(0, 0, true));
        test.argument("clear(0, 0)", () -> net.clear(0, 0));
        test.argument("host(0, 0)", () -> net.host(0, 0));
        test.argument("send(0, 1, 0)", () -> net.send(0, 1, 0));
        test.argument("holds(0, 0)", () -> net.holds(0, 0));
        test.argument("told(0, 0, 0)", () -> net.told(0, 0, 0));
        test.argument("learned(0, 0, 0)", () -> net.learned(0, 0, 0));
        test.argument("joined(0, 0)", () -> net.joined(0, 0));
        test.outside(1, 200, "ticks(?)", net::ticks);
        test.state("ticks(1)", () -> net.ticks(1));
        test.state("ticks(200)", () -> net.ticks(200));
    }

    private static void ofLaidOut(RefusalsTest test, RingGuard net) {
        wrongOfAll(test, net, 4, 5);
        for (int link = 0; link <= 5; link += 5) {
            int each = link;
            test.state("fail(" + link + ")", () -> net.fail(each));
            test.state("heal(" + link + ")", () -> net.heal(each));
            test.state("lose(" + link + ", 0)", () -> net.lose(each, 0));
            test.state("lose(" + link + ", 1000)", () -> net.lose(each, 1000));
            test.state("order(0, " + link + ", true)", () -> net.order(0, each, true));
            test.state("order(0, " + link + ", false)", () -> net.order(0, each, false));
        }
        test.state("clear(0, 0)", () -> net.clear(0, 0));
        test.state("clear(4, 5)", () -> net.clear(4, 5));
        test.state("ticks(1)", () -> net.ticks(1));
        test.state("ticks(200)", () -> net.ticks(200));
        test.state("host(0, 0)", () -> net.host(0, 0));
        test.state("host(63, 4)", () -> net.host(63, 4));
        // No host is anywhere yet, and illegal argument is named first.
        test.argument("send(0, 63, 3)", () -> net.send(0, 63, 3));
    }

    private static void ofFull(RefusalsTest test, RingGuard net) {
        test.state("bridge()", net::bridge);
        test.state("link(0, 47, 5)", () -> net.link(0, 47, 5));
        test.state("link(47, 0, 0)", () -> net.link(47, 0, 0));
        wrongOfAll(test, net, 47, 59);
        test.state("fail(59)", () -> net.fail(59));
        test.state("order(12, 59, true)", () -> net.order(12, 59, true));
        test.state("host(63, 47)", () -> net.host(63, 47));
    }

    private static void ofStarted(RefusalsTest test, RingGuard net) {
        test.state("bridge()", net::bridge);
        test.state("start()", net::start);
        test.state("link(0, 1, 0)", () -> net.link(0, 1, 0));
        test.state("link(4, 3, 5)", () -> net.link(4, 3, 5));
        test.state("owner(0, 1, 0)", () -> net.owner(0, 1, 0));
        test.state("owner(5, 4, 5)", () -> net.owner(5, 4, 5));
        wrongOfAll(test, net, 4, 5);
        test.argument("send() from a host that is nowhere", () -> net.send(63, 0, 0));
        test.argument("send() to a host that is nowhere", () -> net.send(0, 63, 0));
    }

    private static void of19999(RefusalsTest test, RingGuard net) {
        test.state("ticks(2)", () -> net.ticks(2));
        test.state("ticks(200)", () -> net.ticks(200));
        test.outside(1, 200, "ticks(?)", net::ticks);
    }

    private static void of20000(RefusalsTest test, RingGuard net) {
        test.state("ticks(1)", () -> net.ticks(1));
        test.state("ticks(200)", () -> net.ticks(200));
        test.outside(1, 200, "ticks(?)", net::ticks);
    }

    /** Where start() was accepted or not: a wrong argument is what is named first. */
    private static void wrongOfAll(RefusalsTest test, RingGuard net, int bridges, int links) {
        wrongOfLayout(test, net, bridges, links);
        wrongOfEvents(test, net, bridges, links);
        wrongOfFrames(test, net, bridges);
        wrongOfLooks(test, net, bridges, links);
    }

    private static void wrongOfLayout(RefusalsTest test, RingGuard net, int bridges, int links) {
        test.outside(bridges, "link(?, 0, 0)", n -> net.link(n, 0, 0));
        test.outside(bridges, "link(0, ?, 0)", n -> net.link(0, n, 0));
        test.outside(5, "link(0, 1, ?)", n -> net.link(0, 1, n));
        test.argument("link(0, 0, 0)", () -> net.link(0, 0, 0));
        test.argument("link() of the last bridge to itself", () -> net.link(bridges, bridges, 5));
        test.argument("link(-1, -1, 6)", () -> net.link(-1, -1, 6));
        test.outside(5, "owner(?, 0, 0)", n -> net.owner(n, 0, 0));
        test.outside(bridges, "owner(0, ?, 0)", n -> net.owner(0, n, 0));
        test.outside(links, "owner(0, 0, ?)", n -> net.owner(0, 0, n));
    }

    private static void wrongOfEvents(RefusalsTest test, RingGuard net, int bridges, int links) {
        test.outside(links, "fail(?)", net::fail);
        test.outside(links, "heal(?)", net::heal);
        test.outside(links, "lose(?, 1)", n -> net.lose(n, 1));
        test.outside(1000, "lose(0, ?)", n -> net.lose(0, n));
        test.outside(bridges, "order(?, 0, true)", n -> net.order(n, 0, true));
        test.outside(links, "order(0, ?, false)", n -> net.order(0, n, false));
        test.argument("order() at no end", () -> net.order(3, 0, true));
        test.argument("order() at no end of a link of its ring", () -> net.order(0, 1, false));
        test.outside(bridges, "clear(?, 0)", n -> net.clear(n, 0));
        test.outside(5, "clear(0, ?)", n -> net.clear(0, n));
        test.outside(1, 200, "ticks(?)", net::ticks);
    }

    private static void wrongOfFrames(RefusalsTest test, RingGuard net, int bridges) {
        test.outside(63, "host(?, 0)", n -> net.host(n, 0));
        test.outside(bridges, "host(0, ?)", n -> net.host(0, n));
        test.outside(63, "send(?, 1, 0)", n -> net.send(n, 1, 0));
        test.outside(63, "send(0, ?, 0)", n -> net.send(0, n, 0));
        test.outside(3, "send(0, 1, ?)", n -> net.send(0, 1, n));
        test.argument("send(0, 0, 0)", () -> net.send(0, 0, 0));
        test.argument("send(62, 62, 3)", () -> net.send(62, 62, 3));
    }

    private static void wrongOfLooks(RefusalsTest test, RingGuard net, int bridges, int links) {
        test.outside(bridges, "holds(?, 0)", n -> net.holds(n, 0));
        test.outside(links, "holds(0, ?)", n -> net.holds(0, n));
        test.argument("holds() at no end", () -> net.holds(3, 0));
        test.outside(bridges, "told(?, 0, 0)", n -> net.told(n, 0, 0));
        test.outside(5, "told(0, ?, 0)", n -> net.told(0, n, 0));
        test.outside(5, "told(0, ?, 1)", n -> net.told(0, n, 1));
        test.outside(2, "told(0, 0, ?)", n -> net.told(0, 0, n));
        test.outside(bridges, "learned(?, 0, 0)", n -> net.learned(n, 0, 0));
        test.outside(3, "learned(0, ?, 0)", n -> net.learned(0, n, 0));
        test.outside(63, "learned(0, 0, ?)", n -> net.learned(0, 0, n));
        test.outside(bridges, "joined(?, 0)", n -> net.joined(n, 0));
        test.outside(bridges, "joined(0, ?)", n -> net.joined(0, n));
    }

    // How an object lives on.

    /** An object and all that it answered. */
    private static final class Life {
        final RingGuard net;
        private final StringBuilder answers = new StringBuilder();

        Life(RingGuard net) {
            this.net = net;
        }

        Life add(Object answer) {
            answers.append(answer).append('\n');
            return this;
        }

        String text() {
            return answers.append(Seen.of(net)).toString();
        }
    }

    private static Life layOutAndStart(Life life) {
        RingGuard net = life.net;
        for (int i = 0; i < 3; i++) {
            life.add(net.bridge());
        }
        for (int i = 0; i < 3; i++) {
            life.add(net.link(i, (i + 1) % 3, 0));
        }
        net.owner(0, 0, 0);
        life.add(net.start()).add(net.ticks(5));
        return life;
    }

    private static Life startAndRun(Life life) {
        life.add(life.net.start()).add(life.net.host(0, 0)).add(life.net.host(1, 4));
        return run(life);
    }

    private static Life mendAndRun(Life life) {
        life.add(life.net.start());
        life.net.owner(1, 3, 3);
        life.add(life.net.bridge()).add(life.net.link(4, 5, 2)).add(life.net.link(5, 0, 2));
        life.net.owner(2, 5, 6);
        return startAndRun(life);
    }

    private static Life tryStart(Life life) {
        return life.add(life.net.start()).add(life.net.holds(12, 59));
    }

    private static Life run(Life life) {
        RingGuard net = life.net;
        for (int i = 0; i < 20; i++) {
            life.add(net.ticks(1)).add(Seen.of(net));
        }
        runWithoutTicks(life);
        for (int i = 0; i < 20; i++) {
            life.add(net.ticks(i + 1)).add(Seen.of(net)).add(net.send(0, 1, i % 4));
        }
        return life;
    }

    private static Life lastTick(Life life) {
        return life.add(life.net.ticks(1));
    }

    private static Life runWithoutTicks(Life life) {
        RingGuard net = life.net;
        for (int link = 0; link < 6; link++) {
            life.add(net.lose(link, link)).add(net.order(0, link < 3 ? 2 * (link % 2) : 5, true));
        }
        life.add(net.send(0, 1, 0)).add(net.send(1, 0, 3)).add(net.host(0, 1)).add(net.host(63, 0));
        life.add(net.fail(1)).add(net.heal(5)).add(net.clear(0, 0)).add(net.clear(3, 1));
        return life;
    }
}
