import java.util.ArrayList;
import java.util.HashMap;
import java.util.HashSet;
import java.util.List;
import java.util.Map;
import java.util.Set;
import java.util.TreeMap;

/**
 * The document's words once more, written with the Java library and as slow as it likes,
 * to be compared with RoundVotes in random runs. It shares no code with it.
 */
final class PlainRoundVotes {
    record Slot(int height, int round, int sender, int kind) {}

    record Content(int value, int since) {}

    record Copy(int number, int receiver, Slot slot, Content content, int due, boolean second) {}

    record Disturbance(int kind, int by) {}

    record Decision(int value, int round, Set<Integer> voters) {}

    record Evidence(Slot slot, int seenBy, int turn) {}

    static final class State {
        int height = 1;
        int round;
        int step;
        int lockedValue;
        int lockedRound = -1;
        int validValue;
        int validRound = -1;
        int behaviour;
        Integer cutUntil;
        int timerP;
        int timerV;
        int timerC;
        boolean doneD;
        boolean doneF;
        boolean doneG;
        int sent;
        Map<Slot, Content> kept = new HashMap<>();
        Map<Slot, Content> signed = new HashMap<>();
        Map<Integer, Decision> decisions = new TreeMap<>();
    }

    final int n;
    final int seed;
    int time;
    int gone;
    int came;
    int lost;
    int sideBits;
    int sidesToldAt = -1000;
    int sideTurns;
    final State[] states;
    final int[][] weights;
    final Map<Integer, Disturbance> told = new HashMap<>();
    final List<Copy> underWay = new ArrayList<>();
    final List<Evidence> evidences = new ArrayList<>();
    final Map<Slot, Set<Integer>> everSent = new HashMap<>();

    PlainRoundVotes(int wantedNodes, int seed) {
        this.n = wantedNodes < 1 ? 1 : wantedNodes > 10 ? 10 : wantedNodes;
        this.seed = seed;
        states = new State[n];
        weights = new int[41][n];
        for (int i = 0; i < n; i++) {
            states[i] = new State();
            for (int h = 1; h <= 40; h++) {
                weights[h][i] = 1;
            }
        }
    }

    boolean bad(int i) {
        return i < 0 || i >= n;
    }

    int all(int h) {
        int sum = 0;
        for (int w : weights[h]) {
            sum += w;
        }
        return sum;
    }

    int weigh(Set<Integer> who, int h) {
        int sum = 0;
        for (int i : who) {
            sum += weights[h][i];
        }
        return sum;
    }

    boolean many(Set<Integer> who, int h) {
        return weigh(who, h) * 3L > all(h) * 2L;
    }

    boolean some(Set<Integer> who, int h) {
        return weigh(who, h) * 3L > all(h);
    }

    int proposer(int h, int r) {
        return (h + r) % n;
    }

    // ---- calls

    int weight(int node, int w) {
        if (bad(node) || w < 1 || w > 1_000_000) {
            return -1;
        }
        int from = 1;
        if (time > 0) {
            for (State s : states) {
                from = Math.max(from, s.height + 1);
            }
        }
        for (int h = from; h <= 40; h++) {
            weights[h][node] = w;
        }
        return from;
    }

    int behave(int node, int behaviour) {
        if (bad(node) || behaviour < 0 || behaviour > 5) {
            return -1;
        }
        int was = states[node].behaviour;
        states[node].behaviour = behaviour;
        return was;
    }

    int disturb(int k, int kind, int by) {
        if (k < gone || kind < 0 || kind > 2 || (kind == 2 && (by < 1 || by > 20)) || told.containsKey(k)) {
            return -1;
        }
        if (told.size() == 60) {
            return -3;
        }
        told.put(k, new Disturbance(kind, by));
        return told.size();
    }

    int sides(int bits, int turns) {
        if (turns < 1 || turns > 100) {
            return -1;
        }
        sideBits = bits & 1023;
        sidesToldAt = time;
        sideTurns = turns;
        return 1;
    }

    int cut(int node, int turns) {
        if (bad(node) || turns < 1 || turns > 50) {
            return -1;
        }
        if (time == 0 || states[node].cutUntil != null) {
            return -2;
        }
        states[node].cutUntil = time + turns;
        return 1;
    }

    int turn(int turns) {
        if (turns < 1 || turns > 100) {
            return -1;
        }
        for (int k = 0; k < turns; k++) {
            oneTurn();
        }
        return time;
    }

    int catchUp(int node) {
        if (bad(node)) {
            return -1;
        }
        State s = states[node];
        if (time == 0 || s.cutUntil != null) {
            return -2;
        }
        int heights = 0;
        boolean found = true;
        while (found) {
            found = false;
            for (int j = 0; j < n && !found; j++) {
                if (j != node && states[j].cutUntil == null && states[j].decisions.containsKey(s.height)) {
                    found = true;
                    s.decisions.put(s.height, states[j].decisions.get(s.height));
                    enterHeight(node, s.height + 1);
                    heights++;
                }
            }
        }
        if (heights > 0) {
            begin(node, 0);
            rules(node);
        }
        return heights;
    }

    int node(int i, int what) {
        if (bad(i) || what < 0 || what > 12) {
            return -1;
        }
        State s = states[i];
        int cutStill = s.cutUntil == null ? 0 : s.cutUntil - time;
        int[] answers = {s.height, s.round, s.step, s.lockedValue, s.lockedRound, s.validValue, s.validRound,
            cutStill, s.behaviour, s.timerP, s.timerV, s.timerC, s.sent};
        return answers[what];
    }

    int vote(int i, int round, int sender, int kind) {
        if (bad(i) || bad(sender) || round < 0 || round > 29 || kind < 0 || kind > 3) {
            return -1;
        }
        Content c = states[i].kept.get(new Slot(states[i].height, round, sender, kind % 3));
        if (c == null) {
            return kind == 3 ? -9 : -2;
        }
        return kind == 3 ? c.since() : c.value();
    }

    int decided(int i, int height, int what) {
        if (bad(i) || height < 1 || height > 40 || what < 0 || what > 3) {
            return -1;
        }
        Decision d = states[i].decisions.get(height);
        if (d == null) {
            return -2;
        }
        int bits = 0;
        for (int j : d.voters()) {
            bits += 1 << j;
        }
        int[] answers = {d.value(), d.round(), bits, weigh(d.voters(), height)};
        return answers[what];
    }

    int unlike(int height) {
        if (height < 1 || height > 40) {
            return -1;
        }
        Set<Integer> values = new HashSet<>();
        for (State s : states) {
            if (s.decisions.containsKey(height)) {
                values.add(s.decisions.get(height).value());
            }
        }
        return values.size() > 1 ? 1 : 0;
    }

    int evidence(int k, int what) {
        if (k == -1) {
            return what == 0 ? evidences.size() : -1;
        }
        if (k < 0 || k >= evidences.size() || what < 0 || what > 5) {
            return -1;
        }
        Evidence e = evidences.get(k);
        int[] answers = {e.slot().sender(), e.slot().height(), e.slot().round(), e.slot().kind(), e.seenBy(), e.turn()};
        return answers[what];
    }

    int against(int node) {
        if (bad(node)) {
            return -1;
        }
        int times = 0;
        for (Map.Entry<Slot, Set<Integer>> e : everSent.entrySet()) {
            if (e.getKey().sender() == node && e.getValue().size() > 1) {
                times++;
            }
        }
        return times;
    }

    int count(int what) {
        int greatest = 0;
        for (State s : states) {
            for (int h : s.decisions.keySet()) {
                greatest = Math.max(greatest, h);
            }
        }
        int sidesStill = Math.max(0, sidesToldAt + sideTurns - time);
        int[] answers = {time, gone, came, lost, underWay.size(), greatest, n, all(1), sidesStill};
        return what < 0 || what > 8 ? -1 : answers[what];
    }

    int weightOf(int node, int height) {
        if (height < 1 || height > 40 || node < -1 || node >= n) {
            return -1;
        }
        return node == -1 ? all(height) : weights[height][node];
    }

    // ---- a turn

    private void oneTurn() {
        time++;
        for (int i = 0; i < n && time == 1; i++) {
            begin(i, 0);
            rules(i);
        }
        for (int i = 0; i < n; i++) {
            State s = states[i];
            if (s.cutUntil != null && time == s.cutUntil + 1) {
                s.cutUntil = null;
                s.kept.clear();
                s.kept.putAll(s.signed);
                begin(i, s.round);
                rules(i);
            }
        }
        List<Copy> due = new ArrayList<>();
        for (Copy c : underWay) {
            if (c.due() == time) {
                due.add(c);
            }
        }
        due.sort((a, b) -> a.second() != b.second() ? (a.second() ? 1 : -1) : Integer.compare(a.number(), b.number()));
        for (Copy c : due) {
            underWay.remove(c);
            arrive(c);
        }
        for (int i = 0; i < n; i++) {
            endTimers(i);
        }
    }

    private void arrive(Copy c) {
        State s = states[c.receiver()];
        if (s.cutUntil != null) {
            lost++;
            return;
        }
        came++;
        int h = c.slot().height();
        if (h == s.height || h == s.height + 1) {
            Content first = s.kept.get(c.slot());
            if (first == null) {
                s.kept.put(c.slot(), c.content());
            } else if (!first.equals(c.content())) {
                boolean known = evidences.stream().anyMatch(e -> e.slot().equals(c.slot()));
                if (!known && evidences.size() < 200) {
                    evidences.add(new Evidence(c.slot(), c.receiver(), time));
                }
            }
        }
        rules(c.receiver());
    }

    private void endTimers(int i) {
        State s = states[i];
        if (s.cutUntil != null) {
            return;
        }
        if (s.timerP == time) {
            s.timerP = 0;
            if (s.step == 0) {
                s.step = 1;
                send(i, 1, 0, -1);
            }
            rules(i);
        }
        if (s.timerV == time) {
            s.timerV = 0;
            if (s.step == 1) {
                s.step = 2;
                send(i, 2, 0, -1);
            }
            rules(i);
        }
        if (s.timerC == time) {
            s.timerC = 0;
            if (s.round < 29) {
                begin(i, s.round + 1);
            }
            rules(i);
        }
    }

    // ---- a node

    private void enterHeight(int i, int height) {
        State s = states[i];
        s.height = height;
        s.lockedValue = 0;
        s.lockedRound = -1;
        s.validValue = 0;
        s.validRound = -1;
        s.kept.keySet().removeIf(slot -> slot.height() < height);
        s.signed.clear();
    }

    private void begin(int i, int round) {
        State s = states[i];
        s.round = round;
        s.step = 0;
        s.timerP = 0;
        s.timerV = 0;
        s.timerC = 0;
        s.doneD = false;
        s.doneF = false;
        s.doneG = false;
        if (s.height == 41) {
            return;
        }
        if (proposer(s.height, round) == i) {
            if (s.validValue != 0) {
                send(i, 0, s.validValue, s.validRound);
            } else {
                long mix = (long) seed ^ 7919L * i ^ 104729L * s.height ^ 1299709L * round;
                send(i, 0, (int) (2 + 2 * Math.floorMod(mix, 1L << 20)), -1);
            }
        }
        s.timerP = time + 4 + round;
    }

    private void send(int i, int kind, int value, int since) {
        State s = states[i];
        Slot slot = new Slot(s.height, s.round, i, kind);
        Content content = new Content(s.behaviour == 5 && kind > 0 ? 0 : value, since);
        if (s.behaviour != 4) {
            s.signed.putIfAbsent(slot, content);
            content = s.signed.get(slot);
        }
        s.kept.putIfAbsent(slot, content);
        int odd = content.value();
        int other = kind == 0 ? content.value() + 1 : content.value() > 0 ? 0 : 1;
        if (s.behaviour == 1) {
            return;
        }
        if (s.behaviour == 2) {
            odd = other;
        }
        for (int j = 0; j < n; j++) {
            if (j != i) {
                go(slot, j, new Content(j % 2 == 1 ? odd : content.value(), content.since()));
            }
        }
        for (int j = 0; j < n && s.behaviour == 3; j++) {
            if (j != i) {
                go(slot, j, new Content(other, content.since()));
            }
        }
    }

    private void go(Slot slot, int to, Content content) {
        int number = gone++;
        states[slot.sender()].sent++;
        everSent.computeIfAbsent(slot, k -> new HashSet<>()).add(content.value());
        Disturbance d = told.remove(number);
        boolean sidesLast = time > sidesToldAt && time <= sidesToldAt + sideTurns;
        boolean apart = sidesLast && (sideBits >> slot.sender() & 1) != (sideBits >> to & 1);
        if (apart || (d != null && d.kind() == 0) || underWay.size() >= 6000) {
            lost++;
            return;
        }
        int late = d != null && d.kind() == 2 ? d.by() : 0;
        underWay.add(new Copy(number, to, slot, content, time + 1 + late, false));
        if (d != null && d.kind() == 1) {
            if (underWay.size() >= 6000) {
                lost++;
            } else {
                underWay.add(new Copy(number, to, slot, content, time + 2, true));
            }
        }
    }

    private Set<Integer> givers(State s, int round, int kind, Integer value) {
        Set<Integer> who = new HashSet<>();
        for (int j = 0; j < n; j++) {
            Content c = s.kept.get(new Slot(s.height, round, j, kind));
            if (c != null && (value == null || c.value() == value)) {
                who.add(j);
            }
        }
        return who;
    }

    private void rules(int i) {
        while (states[i].height <= 40 && oneRule(i)) {
            continue;
        }
    }

    private boolean oneRule(int i) {
        State s = states[i];
        int h = s.height;
        for (int r = 0; r < 30; r++) {
            Content p = s.kept.get(new Slot(h, r, proposer(h, r), 0));
            if (p != null && many(givers(s, r, 2, p.value()), h)) {
                s.decisions.put(h, new Decision(p.value(), r, givers(s, r, 2, p.value())));
                enterHeight(i, h + 1);
                begin(i, 0);
                return true;
            }
        }
        for (int r = 29; r > s.round; r--) {
            Set<Integer> who = givers(s, r, 0, null);
            who.addAll(givers(s, r, 1, null));
            who.addAll(givers(s, r, 2, null));
            if (some(who, h)) {
                begin(i, r);
                return true;
            }
        }
        return ruleC(i) || ruleD(i) || ruleE(i) || rulesFG(i);
    }

    private boolean ruleC(int i) {
        State s = states[i];
        int h = s.height;
        Content p = s.kept.get(new Slot(h, s.round, proposer(h, s.round), 0));
        if (s.step != 0 || p == null) {
            return false;
        }
        int q = p.since();
        boolean fresh = q == -1;
        boolean again = q >= 0 && q <= s.round - 1 && many(givers(s, q, 1, p.value()), h);
        if (!fresh && !again) {
            return false;
        }
        boolean free = s.lockedValue == 0 || s.lockedValue == p.value() || (q > -1 && s.lockedRound <= q) || s.behaviour == 4;
        s.step = 1;
        send(i, 1, free ? p.value() : 0, -1);
        return true;
    }

    private boolean ruleD(int i) {
        State s = states[i];
        int h = s.height;
        Content p = s.kept.get(new Slot(h, s.round, proposer(h, s.round), 0));
        if (s.doneD || s.step == 0 || p == null || !many(givers(s, s.round, 1, p.value()), h)) {
            return false;
        }
        s.doneD = true;
        s.validValue = p.value();
        s.validRound = s.round;
        if (s.step == 1) {
            s.lockedValue = p.value();
            s.lockedRound = s.round;
            s.step = 2;
            send(i, 2, p.value(), -1);
        }
        return true;
    }

    private boolean ruleE(int i) {
        State s = states[i];
        if (s.step == 1 && many(givers(s, s.round, 1, 0), s.height)) {
            s.step = 2;
            send(i, 2, 0, -1);
            return true;
        }
        return false;
    }

    private boolean rulesFG(int i) {
        State s = states[i];
        if (!s.doneF && s.step == 1 && many(givers(s, s.round, 1, null), s.height)) {
            s.doneF = true;
            s.timerV = time + 3 + s.round;
            return true;
        }
        if (!s.doneG && many(givers(s, s.round, 2, null), s.height)) {
            s.doneG = true;
            s.timerC = time + 3 + s.round;
            return true;
        }
        return false;
    }
}
