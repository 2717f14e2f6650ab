import java.util.ArrayDeque;
import java.util.ArrayList;
import java.util.Deque;
import java.util.HashMap;
import java.util.HashSet;
import java.util.List;
import java.util.Map;
import java.util.Random;
import java.util.Set;
import java.util.TreeSet;

/**
 * Long random runs (of fixed seeds) against a second, slow program that was written from the
 * document alone, with objects and sets in place of rows; and what the document is for: no
 * circle ever, and no bridges apart in calm times.
 */
public final class ModelTest {
    private static final int RUNS = 100;
    private static final int CALLS = 400;

    public static void main(String[] args) {
        int lostRuns = 0;
        int flushes = 0;
        for (int seed = 1; seed <= RUNS; seed++) {
            Run run = new Run(seed);
            run.go();
            lostRuns += run.model.lost > 0 ? 1 : 0;
            flushes += run.model.bridges.get(0).flushes;
            if (run.wrong != null) {
                System.out.println("seed " + seed + ": " + run.wrong);
                System.exit(1);
            }
        }
        if (lostRuns < RUNS / 4 || flushes < RUNS) {
            System.out.println("the runs are too tame: " + lostRuns + " with losses, " + flushes + " flushes");
            System.exit(1);
        }
        System.out.println(RUNS + " runs agree with the model");
    }

    private static final class Run {
        final Random dice;
        final RingGuard real = new RingGuard();
        final Model model = new Model();
        String wrong;
        String call;
        int crowd;

        Run(int seed) {
            dice = new Random(seed);
        }

        void go() {
            layOut();
            check("start()", real.start(), model.start());
            int lossy = dice.nextInt(3);
            for (int i = 0; i < CALLS && wrong == null; i++) {
                step(lossy);
                compare();
            }
        }

        void layOut() {
            int rings = 1 + dice.nextInt(6);
            int skipped = dice.nextInt(7 - rings);
            List<List<Integer>> closed = new ArrayList<>();
            int bridges = 0;
            int links = 0;
            for (int ring = skipped; ring < skipped + rings; ring++) {
                boolean isFirst = ring == skipped;
                boolean sub = !isFirst && dice.nextBoolean();
                List<Integer> way = new ArrayList<>();
                int fresh = 1 + dice.nextInt(6);
                if (sub) {
                    List<Integer> base = closed.get(dice.nextInt(closed.size()));
                    int a = dice.nextInt(base.size());
                    int b = (a + 1 + dice.nextInt(base.size() - 1)) % base.size();
                    way.add(base.get(a));
                    for (int i = 0; i < fresh; i++) {
                        way.add(bridges + i);
                    }
                    way.add(base.get(b));
                } else {
                    fresh += isFirst ? 2 : 1;
                    if (!isFirst) {
                        way.add(dice.nextInt(bridges));
                    }
                    for (int i = 0; i < fresh; i++) {
                        way.add(bridges + i);
                    }
                    closed.add(new ArrayList<>(way));
                }
                for (int i = 0; i < fresh; i++) {
                    check("bridge()", real.bridge(), bridges + i);
                    model.addBridge();
                }
                bridges += fresh;
                if (!sub) {
                    way.add(way.get(0));
                }
                List<int[]> pairs = new ArrayList<>();
                for (int i = 0; i + 1 < way.size(); i++) {
                    boolean turned = dice.nextBoolean();
                    pairs.add(new int[] {way.get(turned ? i + 1 : i), way.get(turned ? i : i + 1)});
                }
                java.util.Collections.shuffle(pairs, dice);
                int chosen = dice.nextInt(pairs.size());
                for (int i = 0; i < pairs.size(); i++) {
                    int[] p = pairs.get(i);
                    check("link()", real.link(p[0], p[1], ring), links);
                    model.addLink(p[0], p[1], ring);
                    if (i == chosen) {
                        int owner = p[dice.nextInt(2)];
                        real.owner(ring, owner, links);
                        model.owners.put(ring, new int[] {owner, links});
                    }
                    links++;
                }
            }
        }

        void step(int lossy) {
            int link = dice.nextInt(model.links.size());
            int bridge = dice.nextInt(model.bridges.size());
            int kind = dice.nextInt(100);
            if (crowd > 0) {
                crowd--;
                link = 0;
                kind = model.links.get(0).failed ? 20 : 10;
            } else if (dice.nextInt(300) == 0) {
                // Fails and heals without a tick between them make more than 64 casts on a link.
                crowd = 140;
            }
            if (kind < 14) {
                call = "fail(" + link + ")";
                check(call, real.fail(link), model.fail(link));
            } else if (kind < 30) {
                call = "heal(" + link + ")";
                check(call, real.heal(link), model.heal(link));
            } else if (kind < 30 + 5 * lossy) {
                int n = dice.nextInt(5) == 0 ? dice.nextInt(100) : dice.nextInt(4);
                call = "lose(" + link + ", " + n + ")";
                check(call, real.lose(link, n), model.lose(link, n));
            } else if (kind < 50) {
                bridge = dice.nextBoolean() ? model.links.get(link).a : model.links.get(link).b;
                boolean forced = dice.nextBoolean();
                call = "order(" + bridge + ", " + link + ", " + forced + ")";
                check(call, real.order(bridge, link, forced), model.order(bridge, link, forced));
            } else if (kind < 65) {
                int ring = dice.nextInt(6);
                call = "clear(" + bridge + ", " + ring + ")";
                check(call, real.clear(bridge, ring), model.clear(bridge, ring));
            } else if (kind < 80) {
                int n = dice.nextInt(3) == 0 ? 1 + dice.nextInt(200) : 1 + dice.nextInt(12);
                if (model.now + n <= 20000) {
                    call = "ticks(" + n + ")";
                    check(call, real.ticks(n), model.ticks(n));
                }
            } else if (kind < 86) {
                int host = dice.nextInt(8);
                call = "host(" + host + ", " + bridge + ")";
                check(call, real.host(host, bridge), model.host(host, bridge));
            } else {
                int from = dice.nextInt(8);
                int to = dice.nextInt(8);
                int tag = dice.nextInt(4);
                if (from != to && model.hostAt.containsKey(from) && model.hostAt.containsKey(to)) {
                    call = "send(" + from + ", " + to + ", " + tag + ")";
                    check(call, real.send(from, to, tag), model.send(from, to, tag));
                }
            }
        }

        void compare() {
            for (Link link : model.links) {
                check("holds(" + link.a + ", " + link.number + ")", real.holds(link.a, link.number), link.holdsAt(link.a));
                check("holds(" + link.b + ", " + link.number + ")", real.holds(link.b, link.number), link.holdsAt(link.b));
            }
            for (Bridge bridge : model.bridges) {
                check("told(" + bridge.number + ", 0, 0)", real.told(bridge.number, 0, 0), bridge.flushes);
                for (int ring = 0; ring < 6; ring++) {
                    check("told(" + bridge.number + ", " + ring + ", 1)", real.told(bridge.number, ring, 1),
                            bridge.guard.getOrDefault(ring, 0));
                    check("told(" + bridge.number + ", " + ring + ", 2)", real.told(bridge.number, ring, 2),
                            model.clock.getOrDefault(ring, 0));
                }
                for (int host = 0; host < 8; host++) {
                    for (int tag = 0; tag < 4; tag++) {
                        check("learned(" + bridge.number + ", " + tag + ", " + host + ")",
                                real.learned(bridge.number, tag, host), model.whereIs(bridge, tag, host));
                    }
                }
                int other = dice.nextInt(model.bridges.size());
                check("joined(" + bridge.number + ", " + other + ")", real.joined(bridge.number, other),
                        model.reach(bridge.number).contains(other));
            }
            check("visits()", real.visits(), model.visits);
            check("casts()", real.casts(), model.countCasts());
            check("lost()", real.lost(), model.lost);
            check("circles()", real.circles(), 0);
            check("apart()", real.apart(), model.apart);
            check("apart() of the model", model.apart, 0);
            check("circle in the model", model.hasCircle(), false);
        }

        void check(String what, Object got, Object due) {
            if (wrong == null && !got.equals(due)) {
                wrong = "behind " + call + ": " + what + " answered " + got + ", due is " + due;
            }
        }
    }

    private static final class Cast {
        final String kind;
        final int source;
        final String name;
        final int number;

        Cast(String kind, int source, String name, int number) {
            this.kind = kind;
            this.source = source;
            this.name = name;
            this.number = number;
        }
    }

    private static final class Link {
        final int number;
        final int a;
        final int b;
        final int ring;
        boolean failed;
        int failures;
        int toLose;
        final Map<Integer, Set<Integer>> holds = new HashMap<>();
        List<Cast> towardsA = new ArrayList<>();
        List<Cast> towardsB = new ArrayList<>();

        Link(int number, int a, int b, int ring) {
            this.number = number;
            this.a = a;
            this.b = b;
            this.ring = ring;
            holds.put(a, new TreeSet<>());
            holds.put(b, new TreeSet<>());
        }

        int holdsAt(int bridge) {
            int sum = 0;
            for (int hold : holds.get(bridge)) {
                sum += hold;
            }
            return sum;
        }

        boolean open() {
            return !failed && holds.get(a).isEmpty() && holds.get(b).isEmpty();
        }

        int otherEnd(int bridge) {
            return bridge == a ? b : a;
        }
    }

    private static final class Bridge {
        final int number;
        final Map<Integer, List<Link>> ports = new HashMap<>();
        final Map<Integer, Integer> guard = new HashMap<>();
        final Map<Integer, Integer> phase = new HashMap<>();
        final Map<String, Integer> told = new HashMap<>();
        final Map<String, int[]> known = new HashMap<>();
        int commands;
        int flushes;

        Bridge(int number) {
            this.number = number;
        }
    }

    private static final class Model {
        final List<Bridge> bridges = new ArrayList<>();
        final List<Link> links = new ArrayList<>();
        final Map<Integer, int[]> owners = new HashMap<>();
        final Map<Integer, Integer> clock = new HashMap<>();
        final Map<Integer, Integer> taken = new HashMap<>();
        final Map<Integer, Integer> hostAt = new HashMap<>();
        final List<Boolean> tickWasCalm = new ArrayList<>();
        int now;
        int lost;
        int visits;
        int apart;
        boolean stirred;

        void addBridge() {
            bridges.add(new Bridge(bridges.size()));
        }

        void addLink(int a, int b, int ring) {
            Link link = new Link(links.size(), a, b, ring);
            links.add(link);
            bridges.get(a).ports.computeIfAbsent(ring, r -> new ArrayList<>()).add(link);
            bridges.get(b).ports.computeIfAbsent(ring, r -> new ArrayList<>()).add(link);
        }

        int start() {
            for (int ring = 0; ring < 6; ring++) {
                if (owners.containsKey(ring)) {
                    ownerTakes(ring);
                }
            }
            return 0;
        }

        void ownerTakes(int ring) {
            int[] owner = owners.get(ring);
            hold(bridges.get(owner[0]), links.get(owner[1]), 16);
            taken.merge(ring, 1, Integer::sum);
            clock.put(ring, 0);
            news(bridges.get(owner[0]), ring, "D" + ring, taken.get(ring));
        }

        void hold(Bridge bridge, Link link, int hold) {
            if (link.holds.get(bridge.number).add(hold)) {
                bridge.phase.put(link.ring, 0);
            }
            if (hold <= 4) {
                ownerGivesUp(bridge, link.ring);
            }
        }

        void unhold(Bridge bridge, Link link, int hold) {
            if (!link.holds.get(bridge.number).remove(hold)) {
                return;
            }
            bridge.phase.put(link.ring, 0);
            if (hold <= 4) {
                link.holds.get(bridge.number).add(8);
                bridge.guard.put(link.ring, 2 * bridges.size() + 4);
            }
        }

        void ownerGivesUp(Bridge bridge, int ring) {
            if (owners.get(ring)[0] == bridge.number) {
                unhold(bridge, links.get(owners.get(ring)[1]), 16);
                clock.put(ring, 0);
            }
        }

        boolean has(Bridge bridge, int ring, int... kinds) {
            for (Link link : bridge.ports.get(ring)) {
                for (int kind : kinds) {
                    if (link.holds.get(bridge.number).contains(kind)) {
                        return true;
                    }
                }
            }
            return false;
        }

        void stopWaiting(Bridge bridge, int ring) {
            for (Link link : bridge.ports.get(ring)) {
                unhold(bridge, link, 8);
            }
        }

        boolean fail(int number) {
            Link link = links.get(number);
            if (link.failed) {
                return false;
            }
            stirred = true;
            link.failed = true;
            link.failures++;
            for (int end : new int[] {link.a, link.b}) {
                unhold(bridges.get(end), link, 8);
                hold(bridges.get(end), link, 1);
            }
            news(bridges.get(link.a), link.ring, "L" + number, link.failures);
            news(bridges.get(link.b), link.ring, "L" + number, link.failures);
            return true;
        }

        boolean heal(int number) {
            Link link = links.get(number);
            if (!link.failed) {
                return false;
            }
            stirred = true;
            link.failed = false;
            unhold(bridges.get(link.a), link, 1);
            unhold(bridges.get(link.b), link, 1);
            return true;
        }

        int lose(int number, int n) {
            int before = links.get(number).toLose;
            links.get(number).toLose = n;
            return before;
        }

        boolean order(int number, int linkNumber, boolean forced) {
            Bridge bridge = bridges.get(number);
            Link link = links.get(linkNumber);
            int kind = forced ? 2 : 4;
            if (link.holds.get(number).contains(kind)) {
                return false;
            }
            stirred = true;
            clear(number, link.ring);
            hold(bridge, link, kind);
            bridge.commands++;
            news(bridge, link.ring, "B" + number, bridge.commands);
            return true;
        }

        boolean clear(int number, int ring) {
            Bridge bridge = bridges.get(number);
            if (!bridge.ports.containsKey(ring) || !has(bridge, ring, 2, 4)) {
                return false;
            }
            stirred = true;
            for (Link link : bridge.ports.get(ring)) {
                unhold(bridge, link, 2);
                unhold(bridge, link, 4);
            }
            return true;
        }

        void news(Bridge bridge, int ring, String name, int number) {
            if (number <= bridge.told.getOrDefault(name, 0)) {
                return;
            }
            bridge.told.put(name, number);
            bridge.flushes++;
            bridge.known.clear();
            for (int other = 0; other < 6; other++) {
                if (other != ring && bridge.ports.containsKey(other)) {
                    castFrom(bridge, other, new Cast("FLUSH", bridge.number, name, number));
                }
            }
        }

        void castFrom(Bridge bridge, int ring, Cast cast) {
            for (Link link : bridge.ports.get(ring)) {
                putOn(link, bridge, cast);
            }
        }

        void putOn(Link link, Bridge from, Cast cast) {
            if (link.failed) {
                return;
            }
            List<Cast> lane = from.number == link.a ? link.towardsB : link.towardsA;
            if (lane.size() == 64) {
                lost++;
                stirred = true;
            } else {
                lane.add(cast);
            }
        }

        int countCasts() {
            int count = 0;
            for (Link link : links) {
                count += link.towardsA.size() + link.towardsB.size();
            }
            return count;
        }

        int ticks(int n) {
            for (int i = 0; i < n; i++) {
                tick();
            }
            return now;
        }

        void tick() {
            if (stirred) {
                tickWasCalm.clear();
            }
            stirred = false;
            now++;
            List<List<Cast>> arriving = new ArrayList<>();
            for (Link link : links) {
                arriving.add(link.towardsA);
                arriving.add(link.towardsB);
                link.towardsA = new ArrayList<>();
                link.towardsB = new ArrayList<>();
            }
            for (Link link : links) {
                for (Cast cast : arriving.get(2 * link.number)) {
                    arrive(link, bridges.get(link.a), cast);
                }
                for (Cast cast : arriving.get(2 * link.number + 1)) {
                    arrive(link, bridges.get(link.b), cast);
                }
            }
            for (Bridge bridge : bridges) {
                for (int ring : new TreeSet<>(bridge.ports.keySet())) {
                    turn(bridge, ring);
                }
            }
            tickWasCalm.add(!stirred);
            stirred = false;
            countApart();
        }

        void arrive(Link link, Bridge bridge, Cast cast) {
            if (link.failed) {
                return;
            }
            if (link.toLose > 0) {
                link.toLose--;
                lost++;
                stirred = true;
                return;
            }
            if (cast.source == bridge.number) {
                return;
            }
            hear(bridge, link.ring, cast);
            for (Link other : bridge.ports.get(link.ring)) {
                if (other != link) {
                    putOn(other, bridge, cast);
                }
            }
        }

        void hear(Bridge bridge, int ring, Cast cast) {
            boolean isOwner = owners.get(ring)[0] == bridge.number;
            if (!cast.kind.equals("HEALED")) {
                news(bridge, ring, cast.name, cast.number);
            }
            if (bridge.guard.getOrDefault(ring, 0) > 0) {
                return;
            }
            switch (cast.kind) {
                case "FAIL", "FORCED", "MANUAL" -> {
                    ownerGivesUp(bridge, ring);
                    stopWaiting(bridge, ring);
                    boolean manualLoses = has(bridge, ring, 4)
                            && (!cast.kind.equals("MANUAL") || cast.source < bridge.number);
                    boolean forcedLoses = has(bridge, ring, 2)
                            && cast.kind.equals("FORCED") && cast.source < bridge.number;
                    if (manualLoses || forcedLoses) {
                        clear(bridge.number, ring);
                    }
                }
                case "HEALED" -> {
                    if (isOwner && !has(bridge, ring, 1, 2, 4, 16) && clock.getOrDefault(ring, 0) == 0) {
                        clock.put(ring, 60);
                    }
                }
                case "DONE" -> stopWaiting(bridge, ring);
                default -> { }
            }
        }

        void turn(Bridge bridge, int ring) {
            int guard = Math.max(0, bridge.guard.getOrDefault(ring, 0) - 1);
            bridge.guard.put(ring, guard);
            boolean isOwner = owners.get(ring)[0] == bridge.number;
            if (isOwner && !has(bridge, ring, 1, 2, 4, 16)) {
                int left = clock.getOrDefault(ring, 0);
                if (left > 1) {
                    clock.put(ring, left - 1);
                } else if (left == 1) {
                    ownerTakes(ring);
                } else if (has(bridge, ring, 8)) {
                    clock.put(ring, 60);
                }
            }
            if (guard == 0 && has(bridge, ring, 1, 2, 4, 16)) {
                stopWaiting(bridge, ring);
            }
            int phase = bridge.phase.getOrDefault(ring, 0) + 1;
            bridge.phase.put(ring, phase);
            if (phase < 3 || (phase - 3) % 5 == 0) {
                Cast cast = toSend(bridge, ring);
                if (cast != null) {
                    castFrom(bridge, ring, cast);
                }
            }
        }

        Cast toSend(Bridge bridge, int ring) {
            if (has(bridge, ring, 2)) {
                return new Cast("FORCED", bridge.number, "B" + bridge.number, bridge.commands);
            }
            for (Link link : bridge.ports.get(ring)) {
                if (link.failed) {
                    return new Cast("FAIL", bridge.number, "L" + link.number, link.failures);
                }
            }
            if (has(bridge, ring, 4)) {
                return new Cast("MANUAL", bridge.number, "B" + bridge.number, bridge.commands);
            }
            if (has(bridge, ring, 8)) {
                return new Cast("HEALED", bridge.number, "", 0);
            }
            if (has(bridge, ring, 16)) {
                return new Cast("DONE", bridge.number, "D" + ring, taken.get(ring));
            }
            return null;
        }

        void countApart() {
            int needed = 4 * bridges.size() + 80;
            if (tickWasCalm.size() < needed
                    || tickWasCalm.subList(tickWasCalm.size() - needed, tickWasCalm.size()).contains(false)) {
                return;
            }
            Map<Integer, Integer> failedIn = new HashMap<>();
            for (Link link : links) {
                for (Set<Integer> holds : link.holds.values()) {
                    if (holds.contains(2) || holds.contains(4)) {
                        return;
                    }
                }
                if (link.failed && failedIn.merge(link.ring, 1, Integer::sum) > 1) {
                    return;
                }
            }
            if (reach(0).size() < bridges.size()) {
                apart++;
            }
        }

        Set<Integer> reach(int from) {
            Set<Integer> seen = new HashSet<>();
            Deque<Integer> open = new ArrayDeque<>();
            open.add(from);
            seen.add(from);
            while (!open.isEmpty()) {
                int at = open.poll();
                for (Link link : links) {
                    if (link.open() && (link.a == at || link.b == at) && seen.add(link.otherEnd(at))) {
                        open.add(link.otherEnd(at));
                    }
                }
            }
            return seen;
        }

        /** Open links make a circle if there are more of them than a forest has. */
        boolean hasCircle() {
            int openLinks = 0;
            for (Link link : links) {
                openLinks += link.open() ? 1 : 0;
            }
            Set<Set<Integer>> groups = new HashSet<>();
            for (Bridge bridge : bridges) {
                groups.add(reach(bridge.number));
            }
            return openLinks != bridges.size() - groups.size();
        }

        int host(int host, int bridge) {
            Integer before = hostAt.put(host, bridge);
            for (Bridge each : bridges) {
                for (int tag = 0; tag < 4; tag++) {
                    each.known.remove(tag + " " + host);
                }
            }
            return before == null ? -1 : before;
        }

        int whereIs(Bridge bridge, int tag, int host) {
            int[] entry = bridge.known.get(tag + " " + host);
            return entry == null || now - entry[1] >= 300 ? -1 : entry[0];
        }

        int send(int from, int to, int tag) {
            Map<String, Integer> went = new HashMap<>();
            Deque<int[]> open = new ArrayDeque<>();
            open.add(new int[] {hostAt.get(from), -1});
            int delivered = 0;
            while (!open.isEmpty()) {
                int[] step = open.poll();
                Bridge bridge = bridges.get(step[0]);
                if (step[1] >= 0) {
                    bridge.known.put(tag + " " + from, new int[] {step[1], now});
                }
                if (hostAt.get(to) == step[0]) {
                    delivered++;
                    continue;
                }
                int where = whereIs(bridge, tag, to);
                for (Link link : links) {
                    if ((link.a == step[0] || link.b == step[0]) && link.number != step[1] && link.open()
                            && (where < 0 || where == link.number)) {
                        went.merge(link.number + " from " + step[0], 1, Integer::sum);
                        open.add(new int[] {link.otherEnd(step[0]), link.number});
                    }
                }
            }
            visits = 0;
            for (int count : went.values()) {
                visits = Math.max(visits, count);
            }
            return delivered;
        }
    }
}
