import java.util.Arrays;

/** Agreement in rounds among weighted nodes over a disturbed network, turn by turn; the document's numbered promises say what holds. */
public final class RoundVotes {
    public static final int BAD = -1, NONE = -2, FULL = -3;

    private static final int MOST_NODES = 10;
    private static final int LAST_HEIGHT = 40;
    private static final int ROUNDS = 30;
    private static final int MOST_WEIGHT = 1_000_000;
    private static final int MOST_TURNS = 100;
    private static final int MOST_SIDE_TURNS = 100;
    private static final int MOST_CUT_TURNS = 50;
    private static final int MOST_LATE = 20;
    private static final int MOST_TOLD = 60;
    private static final int MOST_UNDER_WAY = 6_000;
    private static final int MOST_EVIDENCE = 200;
    /** 40 heights of 30 rounds with some eight rules each stay below this. */
    private static final int MOST_RULES = 10_000;

    private static final int PROPOSAL = 0, PREVOTE = 1, PRECOMMIT = 2, KINDS = 3;
    private static final int PROPOSAL_ROUND = 3;
    private static final int STEP_PROPOSE = 0, STEP_PREVOTE = 1, STEP_PRECOMMIT = 2;
    private static final int TIMER_P = 0, TIMER_V = 1, TIMER_C = 2, TIMERS = 3;
    private static final int ONCE_D = 0, ONCE_F = 1, ONCE_G = 2, ONCES = 3;
    private static final int SILENT = 1, TWO_FACED = 2, BOTH = 3, FORGETFUL = 4, ALL_NIL = 5;
    private static final int TOLD_LOST = 0, TOLD_DOUBLED = 1, TOLD_LATE = 2;
    private static final int NIL = 0;
    private static final int NO_VALUE = 0;
    private static final int NO_ROUND = -1;
    private static final int NO_PROPOSAL_ROUND = -9;
    /** Stands where unlike values have been sent already, so that they count once. */
    private static final int UNLIKE_SENT = -3;

    private final Setup setup;
    private final Node[] nodes;
    private final Mail mail = new Mail();
    private final Told told = new Told();
    private final Faults faults = new Faults();
    private int time;
    private int gone;
    private int came;
    private int lost;
    private int sideBits;
    private int firstSideTurn;
    private int lastSideTurn;

    public RoundVotes(int n, int seed) {
        setup = new Setup(n, seed);
        nodes = new Node[setup.size];
        for (int i = 0; i < setup.size; i++) {
            nodes[i] = new Node(i, setup);
        }
    }

    public int weight(int node, int w) {
        if (!isNode(node) || w < 1 || w > MOST_WEIGHT) {
            return BAD;
        }
        int height = time == 0 ? 1 : greatestHeight() + 1;
        setup.changeWeight(node, w, height);
        return height;
    }

    public int behave(int node, int behaviour) {
        if (!isNode(node) || behaviour < 0 || behaviour > ALL_NIL) {
            return BAD;
        }
        int before = nodes[node].behaviour;
        nodes[node].behaviour = behaviour;
        return before;
    }

    public int disturb(int k, int kind, int by) {
        if (k < gone || kind < TOLD_LOST || kind > TOLD_LATE || told.find(k) >= 0) {
            return BAD;
        }
        if (kind == TOLD_LATE && (by < 1 || by > MOST_LATE)) {
            return BAD;
        }
        return told.add(k, kind, by) ? told.size : FULL;
    }

    public int sides(int bits, int turns) {
        if (turns < 1 || turns > MOST_SIDE_TURNS) {
            return BAD;
        }
        sideBits = bits;
        firstSideTurn = time + 1;
        lastSideTurn = time + turns;
        return 1;
    }

    public int cut(int node, int turns) {
        if (!isNode(node) || turns < 1 || turns > MOST_CUT_TURNS) {
            return BAD;
        }
        if (time == 0 || nodes[node].isCut()) {
            return NONE;
        }
        nodes[node].lastCutTurn = time + turns;
        return 1;
    }

    public int turn(int n) {
        if (n < 1 || n > MOST_TURNS) {
            return BAD;
        }
        for (int k = 0; k < n; k++) {
            time++;
            if (time == 1) {
                beginAll();
            }
            bringNodesBack();
            bringCopies();
            endTimers();
        }
        return time;
    }

    public int catchUp(int node) {
        if (!isNode(node)) {
            return BAD;
        }
        Node asker = nodes[node];
        if (time == 0 || asker.isCut()) {
            return NONE;
        }
        int heights = 0;
        for (int height = asker.height; height <= LAST_HEIGHT; height++) {
            int teller = tellerOf(node, height);
            if (teller < 0) {
                break;
            }
            asker.decideAs(nodes[teller]);
            heights++;
        }
        if (heights > 0) {
            asker.begin(0, time);
            settle(asker);
        }
        return heights;
    }

    public int node(int i, int what) {
        if (!isNode(i)) {
            return BAD;
        }
        Node x = nodes[i];
        switch (what) {
            case 0: return x.height;
            case 1: return x.round;
            case 2: return x.step;
            case 3: return x.locked.value;
            case 4: return x.locked.round;
            case 5: return x.valid.value;
            case 6: return x.valid.round;
            case 7: return Math.max(0, x.lastCutTurn - time);
            case 8: return x.behaviour;
            case 9: return x.timers[TIMER_P];
            case 10: return x.timers[TIMER_V];
            case 11: return x.timers[TIMER_C];
            case 12: return x.sendings.copies;
            default: return BAD;
        }
    }

    public int vote(int i, int round, int sender, int kind) {
        if (!isNode(i) || !isNode(sender) || round < 0 || round >= ROUNDS || kind < 0 || kind > PROPOSAL_ROUND) {
            return BAD;
        }
        Ballots has = nodes[i].present;
        if (kind != PROPOSAL_ROUND) {
            return has.valueOf(round, sender, kind);
        }
        return has.holds(round, sender, PROPOSAL) ? has.sinceOf(round) : NO_PROPOSAL_ROUND;
    }

    public int decided(int i, int height, int what) {
        if (!isNode(i) || !isHeight(height) || what < 0 || what > 3) {
            return BAD;
        }
        Decisions of = nodes[i].decisions;
        if (!of.holds(height)) {
            return NONE;
        }
        switch (what) {
            case 0: return of.values[height];
            case 1: return of.rounds[height];
            case 2: return of.voters[height];
            default: return setup.weightOfAll(of.voters[height], height);
        }
    }

    public int unlike(int height) {
        if (!isHeight(height)) {
            return BAD;
        }
        int first = NO_VALUE;
        for (int i = 0; i < setup.size; i++) {
            int value = nodes[i].decisions.values[height];
            if (value != NO_VALUE && first != NO_VALUE && value != first) {
                return 1;
            }
            if (value != NO_VALUE) {
                first = value;
            }
        }
        return 0;
    }

    public int evidence(int k, int what) {
        if (k == -1 && what == 0) {
            return faults.size;
        }
        if (k < 0 || k >= faults.size || what < 0 || what >= Faults.PARTS) {
            return BAD;
        }
        return faults.part(k, what);
    }

    public int against(int node) {
        return isNode(node) ? nodes[node].sendings.timesUnlike : BAD;
    }

    public int count(int what) {
        switch (what) {
            case 0: return time;
            case 1: return gone;
            case 2: return came;
            case 3: return lost;
            case 4: return mail.underWay;
            case 5: return greatestDecided();
            case 6: return setup.size;
            case 7: return setup.all[1];
            case 8: return Math.max(0, lastSideTurn - time);
            default: return BAD;
        }
    }

    public int weightOf(int node, int height) {
        if (!isHeight(height) || (node != -1 && !isNode(node))) {
            return BAD;
        }
        return node == -1 ? setup.all[height] : setup.weights[height][node];
    }

    private boolean isNode(int i) {
        return i >= 0 && i < setup.size;
    }

    private static boolean isHeight(int height) {
        return height >= 1 && height <= LAST_HEIGHT;
    }

    private int greatestHeight() {
        int greatest = 1;
        for (int i = 0; i < setup.size; i++) {
            greatest = Math.max(greatest, nodes[i].height);
        }
        return greatest;
    }

    /** A node decides heights one by one, so the one below its own is its last. */
    private int greatestDecided() {
        return greatestHeight() - 1;
    }

    /** The least other node that is not cut and has decided this height, or -1. */
    private int tellerOf(int asker, int height) {
        for (int i = 0; i < setup.size; i++) {
            if (i != asker && !nodes[i].isCut() && nodes[i].decisions.holds(height)) {
                return i;
            }
        }
        return -1;
    }

    private void beginAll() {
        for (int i = 0; i < setup.size; i++) {
            nodes[i].begin(0, time);
            settle(nodes[i]);
        }
    }

    private void bringNodesBack() {
        for (int i = 0; i < setup.size; i++) {
            Node node = nodes[i];
            if (node.isCut() && time > node.lastCutTurn) {
                node.comeBack(time);
                settle(node);
            }
        }
    }

    /** Second ones come behind all others of the turn, hence the two passes. */
    private void bringCopies() {
        int posted = mail.size;
        for (int pass = 0; pass < 2; pass++) {
            for (int k = 0; k < posted; k++) {
                Message copy = mail.slots[k];
                if (copy != null && copy.due == time && copy.second == (pass == 1)) {
                    handOver(copy);
                    settle(nodes[copy.receiver]);
                }
            }
        }
        mail.dropUpTo(time);
    }

    private void handOver(Message copy) {
        mail.underWay--;
        Node receiver = nodes[copy.receiver];
        if (receiver.isCut()) {
            lost++;
            return;
        }
        came++;
        if (!receiver.accepts(copy)) {
            faults.add(copy, time);
        }
    }

    private void endTimers() {
        for (int i = 0; i < setup.size; i++) {
            Node node = nodes[i];
            for (int timer = 0; timer < TIMERS; timer++) {
                if (!node.isCut() && node.timers[timer] == time) {
                    node.endTimer(timer, time);
                    settle(node);
                }
            }
        }
    }

    /** Follows the rules till none goes; what one made the node send goes before the next. A node that is cut does nothing. */
    private void settle(Node node) {
        if (node.isCut()) {
            return;
        }
        for (int k = 0; k < MOST_RULES; k++) {
            dispatch(node);
            if (!node.followsRule(time)) {
                return;
            }
        }
    }

    private void dispatch(Node node) {
        if (!node.hasToSend) {
            return;
        }
        node.hasToSend = false;
        Message message = node.outgoing;
        int value = message.value;
        int other = message.otherValue();
        int times = node.timesSending();
        for (int pass = 0; pass < times; pass++) {
            for (int to = 0; to < setup.size; to++) {
                if (to != node.number) {
                    message.receiver = to;
                    message.value = pass == 1 || node.deceives(to) ? other : value;
                    node.sendings.add(message);
                    sendCopy(message);
                }
            }
        }
    }

    private void sendCopy(Message message) {
        int place = told.find(gone);
        int kind = place < 0 ? NONE : told.kinds[place];
        int late = kind == TOLD_LATE ? told.bys[place] : 0;
        told.remove(place);
        gone++;
        if (kind == TOLD_LOST || areOnUnlikeSides(message.sender, message.receiver)) {
            lost++;
            return;
        }
        if (!mail.post(message, time + 1 + late, false)) {
            lost++;
            return;
        }
        if (kind == TOLD_DOUBLED && !mail.post(message, time + 2, true)) {
            lost++;
        }
    }

    private boolean areOnUnlikeSides(int a, int b) {
        boolean sidesLast = time >= firstSideTurn && time <= lastSideTurn;
        return sidesLast && ((sideBits >> a) & 1) != ((sideBits >> b) & 1);
    }

    /** What all nodes share: how many they are, the seed, and the weights of each height. */
    private static final class Setup {
        final int size;
        final int seed;
        final int[][] weights;
        final int[] all = new int[LAST_HEIGHT + 1];

        Setup(int n, int seed) {
            this.size = Math.max(1, Math.min(MOST_NODES, n));
            this.seed = seed;
            this.weights = new int[LAST_HEIGHT + 1][this.size];
            for (int height = 1; height <= LAST_HEIGHT; height++) {
                Arrays.fill(weights[height], 1);
                all[height] = this.size;
            }
        }

        void changeWeight(int node, int weight, int fromHeight) {
            for (int height = fromHeight; height <= LAST_HEIGHT; height++) {
                all[height] += weight - weights[height][node];
                weights[height][node] = weight;
            }
        }

        int weightOfAll(int bits, int height) {
            int sum = 0;
            for (int i = 0; i < size; i++) {
                if (((bits >> i) & 1) == 1) {
                    sum += weights[height][i];
                }
            }
            return sum;
        }

        int proposer(int height, int round) {
            return (height + round) % size;
        }

        int ownValue(int node, int height, int round) {
            int mixed = seed ^ 7_919 * node ^ 104_729 * height ^ 1_299_709 * round;
            return 2 + 2 * (mixed & 0xFFFFF);
        }
    }

    /** A message, or a copy of one on its way. */
    private static final class Message {
        int sender;
        int receiver;
        int height;
        int round;
        int kind;
        int value;
        /** Of a proposal: the round since when its value is valid, or -1. */
        int since;
        int due;
        boolean second;

        void copyFrom(Message other) {
            sender = other.sender;
            receiver = other.receiver;
            height = other.height;
            round = other.round;
            kind = other.kind;
            value = other.value;
            since = other.since;
        }

        /** The value that faulty nodes send instead of this one, or behind it. */
        int otherValue() {
            if (kind == PROPOSAL) {
                return value + 1;
            }
            return value == NIL ? 1 : NIL;
        }
    }

    /** Messages of one height by round, sender and kind; a proposal's round is by round alone, as each round has one proposer. */
    private static final class Ballots {
        private final int senders;
        private final int[] values;
        private final int[] sinces = new int[ROUNDS];
        /** No round above this holds anything, so none needs to be looked at. */
        int topRound = NO_ROUND;

        Ballots(int senders) {
            this.senders = senders;
            this.values = new int[ROUNDS * senders * KINDS];
            Arrays.fill(values, NONE);
        }

        int valueOf(int round, int sender, int kind) {
            return values[(round * senders + sender) * KINDS + kind];
        }

        int sinceOf(int round) {
            return sinces[round];
        }

        boolean holds(int round, int sender, int kind) {
            return values[(round * senders + sender) * KINDS + kind] != NONE;
        }

        void put(int round, int sender, int kind, int value, int since) {
            values[(round * senders + sender) * KINDS + kind] = value;
            if (kind == PROPOSAL) {
                sinces[round] = since;
            }
            if (round > topRound) {
                topRound = round;
            }
        }

        int votersFor(int round, int kind, int value) {
            int bits = 0;
            for (int sender = 0; sender < senders; sender++) {
                if (valueOf(round, sender, kind) == value) {
                    bits |= 1 << sender;
                }
            }
            return bits;
        }

        int voters(int round, int kind) {
            int bits = 0;
            for (int sender = 0; sender < senders; sender++) {
                if (holds(round, sender, kind)) {
                    bits |= 1 << sender;
                }
            }
            return bits;
        }

        void clear() {
            int used = (topRound + 1) * senders * KINDS;
            for (int k = 0; k < used; k++) {
                values[k] = NONE;
            }
            topRound = NO_ROUND;
        }
    }

    /** A value and its round, or none. */
    private static final class Choice {
        int value = NO_VALUE;
        int round = NO_ROUND;

        void choose(int newValue, int newRound) {
            value = newValue;
            round = newRound;
        }

        boolean isNone() {
            return value == NO_VALUE;
        }
    }

    /** What a node decided, by height. */
    private static final class Decisions {
        final int[] values = new int[LAST_HEIGHT + 1];
        final int[] rounds = new int[LAST_HEIGHT + 1];
        final int[] voters = new int[LAST_HEIGHT + 1];

        boolean holds(int height) {
            return values[height] != NO_VALUE;
        }

        void put(int height, int value, int round, int bits) {
            values[height] = value;
            rounds[height] = round;
            voters[height] = bits;
        }
    }

    /** What a node has sent: copies, and how often unlike values for one height, round and kind. */
    private static final class Sendings {
        int copies;
        int timesUnlike;
        /** The one value sent, of this height; or that they were unlike. */
        final Ballots firsts = new Ballots(1);

        void add(Message message) {
            copies++;
            int first = firsts.valueOf(message.round, 0, message.kind);
            if (first == NONE) {
                firsts.put(message.round, 0, message.kind, message.value, message.since);
            } else if (first != UNLIKE_SENT && first != message.value) {
                firsts.put(message.round, 0, message.kind, UNLIKE_SENT, message.since);
                timesUnlike++;
            }
        }
    }

    /** One node: its height, round, step and choices, what it keeps, and its rules. */
    private static final class Node {
        final int number;
        private final Setup setup;
        int height = 1;
        int round;
        int step = STEP_PROPOSE;
        final Choice locked = new Choice();
        final Choice valid = new Choice();
        int behaviour;
        /** 0 if it is not cut; it is cut still behind this turn, till the next one brings it back. */
        int lastCutTurn;
        final int[] timers = new int[TIMERS];
        private final boolean[] once = new boolean[ONCES];
        final Decisions decisions = new Decisions();
        Ballots present;
        private Ballots next;
        private final Ballots signed = new Ballots(1);
        final Sendings sendings = new Sendings();
        final Message outgoing = new Message();
        boolean hasToSend;

        Node(int number, Setup setup) {
            this.number = number;
            this.setup = setup;
            this.present = new Ballots(setup.size);
            this.next = new Ballots(setup.size);
        }

        boolean isCut() {
            return lastCutTurn > 0;
        }

        /** No rule goes and no round begins for a node that is past the last height. */
        private boolean standsStill() {
            return height > LAST_HEIGHT;
        }

        void begin(int newRound, int time) {
            if (newRound >= ROUNDS) {
                return;
            }
            round = newRound;
            step = STEP_PROPOSE;
            for (int k = 0; k < TIMERS; k++) {
                timers[k] = 0;
            }
            for (int k = 0; k < ONCES; k++) {
                once[k] = false;
            }
            if (standsStill()) {
                return;
            }
            timers[TIMER_P] = time + 4 + round;
            if (setup.proposer(height, round) != number) {
                return;
            }
            if (valid.isNone()) {
                send(PROPOSAL, setup.ownValue(number, height, round), NO_ROUND);
            } else {
                send(PROPOSAL, valid.value, valid.round);
            }
        }

        int timesSending() {
            if (behaviour == SILENT) {
                return 0;
            }
            return behaviour == BOTH ? 2 : 1;
        }

        boolean deceives(int receiver) {
            return behaviour == TWO_FACED && receiver % 2 == 1;
        }

        /** Signs a message, counts it for the node itself and leaves it to be dispatched; a vote ends its step. */
        private void send(int kind, int wanted, int wantedSince) {
            int value = behaviour == ALL_NIL && kind != PROPOSAL ? NIL : wanted;
            int since = wantedSince;
            if (behaviour != FORGETFUL) {
                if (signed.holds(round, 0, kind)) {
                    value = signed.valueOf(round, 0, kind);
                    since = kind == PROPOSAL ? signed.sinceOf(round) : since;
                } else {
                    signed.put(round, 0, kind, value, since);
                }
            }
            if (!present.holds(round, number, kind)) {
                present.put(round, number, kind, value, since);
            }
            outgoing.sender = number;
            outgoing.height = height;
            outgoing.round = round;
            outgoing.kind = kind;
            outgoing.value = value;
            outgoing.since = since;
            hasToSend = true;
            if (kind != PROPOSAL) {
                step = kind == PREVOTE ? STEP_PREVOTE : STEP_PRECOMMIT;
            }
        }

        /** Keeps a copy that came if it is the first of its kind; false if it is unlike the first. */
        boolean accepts(Message copy) {
            if (copy.height != height && copy.height != height + 1) {
                return true;
            }
            Ballots kept = copy.height == height ? present : next;
            if (!kept.holds(copy.round, copy.sender, copy.kind)) {
                kept.put(copy.round, copy.sender, copy.kind, copy.value, copy.since);
                return true;
            }
            if (copy.kind == PROPOSAL && kept.sinceOf(copy.round) != copy.since) {
                return false;
            }
            return kept.valueOf(copy.round, copy.sender, copy.kind) == copy.value;
        }

        void comeBack(int time) {
            lastCutTurn = 0;
            present.clear();
            next.clear();
            int top = signed.topRound;
            for (int r = 0; r <= top; r++) {
                for (int kind = 0; kind < KINDS; kind++) {
                    if (signed.holds(r, 0, kind)) {
                        present.put(r, number, kind, signed.valueOf(r, 0, kind), signed.sinceOf(r));
                    }
                }
            }
            begin(round, time);
        }

        void decideAs(Node other) {
            Decisions there = other.decisions;
            decisions.put(height, there.values[height], there.rounds[height], there.voters[height]);
            goToNextHeight();
        }

        private void decide(int r) {
            int value = proposalOf(r);
            decisions.put(height, value, r, present.votersFor(r, PRECOMMIT, value));
            goToNextHeight();
        }

        private void goToNextHeight() {
            height++;
            locked.choose(NO_VALUE, NO_ROUND);
            valid.choose(NO_VALUE, NO_ROUND);
            Ballots past = present;
            past.clear();
            present = next;
            next = past;
            signed.clear();
            sendings.firsts.clear();
        }

        void endTimer(int timer, int time) {
            timers[timer] = 0;
            if (timer == TIMER_P && step == STEP_PROPOSE) {
                send(PREVOTE, NIL, NO_ROUND);
            } else if (timer == TIMER_V && step == STEP_PREVOTE) {
                send(PRECOMMIT, NIL, NO_ROUND);
            } else if (timer == TIMER_C) {
                begin(round + 1, time);
            }
        }

        /** Follows the first rule that goes; false if none does. */
        boolean followsRule(int time) {
            if (standsStill()) {
                return false;
            }
            int toDecide = roundToDecide();
            if (toDecide != NO_ROUND) {
                decide(toDecide);
                begin(0, time);
                return true;
            }
            int toJoin = roundToJoin();
            if (toJoin != NO_ROUND) {
                begin(toJoin, time);
                return true;
            }
            return answersProposal() || locks() || givesUpValue() || waitsForPrevotes(time) || waitsForPrecommits(time);
        }

        private int proposalOf(int r) {
            return present.valueOf(r, setup.proposer(height, r), PROPOSAL);
        }

        private boolean areMany(int bits) {
            return 3 * setup.weightOfAll(bits, height) > 2 * setup.all[height];
        }

        private boolean areSome(int bits) {
            return 3 * setup.weightOfAll(bits, height) > setup.all[height];
        }

        /** Rule A: the least round whose proposal many precommitted. */
        private int roundToDecide() {
            int top = present.topRound;
            for (int r = 0; r <= top; r++) {
                int value = proposalOf(r);
                if (value != NONE && areMany(present.votersFor(r, PRECOMMIT, value))) {
                    return r;
                }
            }
            return NO_ROUND;
        }

        /** Rule B: the greatest later round that some have spoken in. */
        private int roundToJoin() {
            for (int r = present.topRound; r > round; r--) {
                int heard = present.voters(r, PROPOSAL) | present.voters(r, PREVOTE) | present.voters(r, PRECOMMIT);
                if (areSome(heard)) {
                    return r;
                }
            }
            return NO_ROUND;
        }

        /** Rule C. */
        private boolean answersProposal() {
            int value = proposalOf(round);
            if (step != STEP_PROPOSE || value == NONE) {
                return false;
            }
            int since = present.sinceOf(round);
            if (since >= round) {
                return false;
            }
            if (since > NO_ROUND && !areMany(present.votersFor(since, PREVOTE, value))) {
                return false;
            }
            send(PREVOTE, lockAllows(value, since) ? value : NIL, NO_ROUND);
            return true;
        }

        private boolean lockAllows(int value, int since) {
            if (behaviour == FORGETFUL || locked.isNone() || locked.value == value) {
                return true;
            }
            return since > NO_ROUND && locked.round <= since;
        }

        /** Rule D. */
        private boolean locks() {
            int value = proposalOf(round);
            if (once[ONCE_D] || step == STEP_PROPOSE || value == NONE) {
                return false;
            }
            if (!areMany(present.votersFor(round, PREVOTE, value))) {
                return false;
            }
            once[ONCE_D] = true;
            if (step == STEP_PREVOTE) {
                locked.choose(value, round);
                send(PRECOMMIT, value, NO_ROUND);
            }
            valid.choose(value, round);
            return true;
        }

        /** Rule E. */
        private boolean givesUpValue() {
            if (step != STEP_PREVOTE || !areMany(present.votersFor(round, PREVOTE, NIL))) {
                return false;
            }
            send(PRECOMMIT, NIL, NO_ROUND);
            return true;
        }

        /** Rule F. */
        private boolean waitsForPrevotes(int time) {
            if (once[ONCE_F] || step != STEP_PREVOTE || !areMany(present.voters(round, PREVOTE))) {
                return false;
            }
            once[ONCE_F] = true;
            timers[TIMER_V] = time + 3 + round;
            return true;
        }

        /** Rule G. */
        private boolean waitsForPrecommits(int time) {
            if (once[ONCE_G] || !areMany(present.voters(round, PRECOMMIT))) {
                return false;
            }
            once[ONCE_G] = true;
            timers[TIMER_C] = time + 3 + round;
            return true;
        }
    }

    /** Copies under way, as they went; slots are used again once what they hold has come. */
    private static final class Mail {
        /** Twice the limit, as copies that come stay here till their turn is over while others go. */
        final Message[] slots = new Message[2 * MOST_UNDER_WAY];
        int size;
        int underWay;

        /** False if too many are under way. */
        boolean post(Message message, int due, boolean second) {
            if (underWay >= MOST_UNDER_WAY || size >= slots.length) {
                return false;
            }
            if (slots[size] == null) {
                slots[size] = new Message();
            }
            Message copy = slots[size];
            copy.copyFrom(message);
            copy.due = due;
            copy.second = second;
            size++;
            underWay++;
            return true;
        }

        void dropUpTo(int time) {
            int left = 0;
            for (int k = 0; k < size; k++) {
                Message copy = slots[k];
                if (copy != null && copy.due > time) {
                    slots[k] = slots[left];
                    slots[left] = copy;
                    left++;
                }
            }
            size = left;
        }
    }

    /** Which copies that have not gone yet are to be disturbed, and how. */
    private static final class Told {
        private final int[] numbers = new int[MOST_TOLD];
        final int[] kinds = new int[MOST_TOLD];
        final int[] bys = new int[MOST_TOLD];
        int size;

        /** The place of a copy's number, or -1. */
        int find(int number) {
            for (int k = 0; k < size; k++) {
                if (numbers[k] == number) {
                    return k;
                }
            }
            return -1;
        }

        /** False if there is no room for one more. */
        boolean add(int number, int kind, int by) {
            if (size >= MOST_TOLD) {
                return false;
            }
            numbers[size] = number;
            kinds[size] = kind;
            bys[size] = by;
            size++;
            return true;
        }

        void remove(int place) {
            if (place < 0 || place >= size) {
                return;
            }
            size--;
            numbers[place] = numbers[size];
            kinds[place] = kinds[size];
            bys[place] = bys[size];
        }
    }

    /** The evidence against senders, each by sender, height, round and kind once. */
    private static final class Faults {
        static final int PARTS = 6;
        private static final int SENDER = 0, HEIGHT = 1, ROUND = 2, KIND = 3, SEEN_BY = 4, TURN = 5;
        private final int[] parts = new int[MOST_EVIDENCE * PARTS];
        int size;

        int part(int k, int what) {
            return parts[k * PARTS + what];
        }

        void add(Message copy, int time) {
            if (size >= MOST_EVIDENCE || isKnown(copy)) {
                return;
            }
            int at = size * PARTS;
            parts[at + SENDER] = copy.sender;
            parts[at + HEIGHT] = copy.height;
            parts[at + ROUND] = copy.round;
            parts[at + KIND] = copy.kind;
            parts[at + SEEN_BY] = copy.receiver;
            parts[at + TURN] = time;
            size++;
        }

        private boolean isKnown(Message copy) {
            for (int k = 0; k < size; k++) {
                boolean alike = part(k, SENDER) == copy.sender && part(k, HEIGHT) == copy.height;
                if (alike && part(k, ROUND) == copy.round && part(k, KIND) == copy.kind) {
                    return true;
                }
            }
            return false;
        }
    }
}
