import java.util.ArrayList;
import java.util.List;
import java.util.function.IntSupplier;

/**
 * Long runs of mixed calls, right and wrong ones, each compared with a second, plain program of the
 * same document: the answer or the very exception, and behind each call the digest, so that a call
 * that throws, or only tells something, is seen to change nothing.
 */
public final class ModelTest {
    private static final int RUNS = 1000;

    // With the digest behind each, these are the 512 calls that an object is used for.
    private static final int CALLS = 256;

    private static int wrong = 0;

    // ---- the second program: written for likeness with the document alone

    private static final class Stall {
        int cost;
        int goal;
        int prizes;
        int needs;
        int plays;
        int paid;
        List<Integer> queue = new ArrayList<>();
    }

    private static final class Hand {
        int strength = 24;
        int stall = -1;
        int worked;
    }

    private static final class Guest {
        int tokens;
        int skill;
        boolean home;
        int prizes;
        int marks;
        int plays;
        int best;
        int[] practice = new int[8];
    }

    private static final class Model {
        List<Stall> stalls = new ArrayList<>();
        List<Hand> hands = new ArrayList<>();
        List<Guest> guests = new ArrayList<>();
        List<int[]> lines = new ArrayList<>();
        int round;
        int dart = 1;
        int marked = -1;

        Model copy() {
            Model m = new Model();
            for (Stall s : stalls) {
                Stall c = new Stall();
                c.cost = s.cost;
                c.goal = s.goal;
                c.prizes = s.prizes;
                c.needs = s.needs;
                c.plays = s.plays;
                c.paid = s.paid;
                c.queue.addAll(s.queue);
                m.stalls.add(c);
            }
            for (Hand h : hands) {
                Hand c = new Hand();
                c.strength = h.strength;
                c.stall = h.stall;
                c.worked = h.worked;
                m.hands.add(c);
            }
            for (Guest g : guests) {
                Guest c = new Guest();
                c.tokens = g.tokens;
                c.skill = g.skill;
                c.home = g.home;
                c.prizes = g.prizes;
                c.marks = g.marks;
                c.plays = g.plays;
                c.best = g.best;
                c.practice = g.practice.clone();
                m.guests.add(c);
            }
            for (int[] line : lines) {
                m.lines.add(line.clone());
            }
            m.round = round;
            m.dart = dart;
            m.marked = marked;
            return m;
        }

        static void index(boolean right) {
            if (!right) {
                throw new IndexOutOfBoundsException();
            }
        }

        static void argument(boolean right) {
            if (!right) {
                throw new IllegalArgumentException();
            }
        }

        static void state(boolean right) {
            if (!right) {
                throw new IllegalStateException();
            }
        }

        static boolean in(int n, int least, int most) {
            return least <= n && n <= most;
        }

        boolean stall(int b) {
            return in(b, 0, stalls.size() - 1);
        }

        boolean hand(int h) {
            return in(h, 0, hands.size() - 1);
        }

        boolean guest(int v) {
            return in(v, 0, guests.size() - 1);
        }

        int handsAt(int b) {
            int n = 0;
            for (Hand h : hands) {
                if (h.stall == b) {
                    n++;
                }
            }
            return n;
        }

        boolean open(int b) {
            return handsAt(b) >= stalls.get(b).needs;
        }

        int price(int b) {
            return stalls.get(b).cost - (b == marked ? 1 : 0);
        }

        int queueOf(int v) {
            for (int b = 0; b < stalls.size(); b++) {
                if (stalls.get(b).queue.contains(v)) {
                    return b;
                }
            }
            return -1;
        }

        int stateOf(int v) {
            return guests.get(v).home ? 2 : queueOf(v) >= 0 ? 1 : 0;
        }

        int won() {
            int n = 0;
            for (Guest g : guests) {
                n += g.prizes;
            }
            return n;
        }

        int addBooth(int cost, int goal, int prizes, int needs) {
            argument(in(cost, 1, 9) && in(goal, 0, 60) && in(prizes, 0, 99) && in(needs, 1, 3));
            state(stalls.size() < 8);
            Stall s = new Stall();
            s.cost = cost;
            s.goal = goal;
            s.prizes = prizes;
            s.needs = needs;
            stalls.add(s);
            return stalls.size() - 1;
        }

        int addHelper() {
            state(hands.size() < 12);
            hands.add(new Hand());
            return hands.size() - 1;
        }

        int come(int tokens, int skill) {
            argument(in(tokens, 0, 200) && in(skill, 0, 30));
            state(guests.size() < 16);
            Guest g = new Guest();
            g.tokens = tokens;
            g.skill = skill;
            guests.add(g);
            return guests.size() - 1;
        }

        int setDart(int d) {
            argument(in(d, 1, 65536));
            int was = dart;
            dart = d;
            return was;
        }

        int work(int h, int b) {
            index(hand(h) && (stall(b) || b == -1));
            int was = hands.get(h).stall;
            hands.get(h).stall = b;
            return was;
        }

        int bring(int b, int prizes) {
            index(stall(b));
            argument(in(prizes, 1, 99));
            state(stalls.get(b).prizes + prizes <= 99);
            return stalls.get(b).prizes += prizes;
        }

        int sell(int v, int tokens) {
            index(guest(v));
            argument(in(tokens, 1, 200));
            guests.get(v).home = false;
            return guests.get(v).tokens += tokens;
        }

        int leave(int v) {
            index(guest(v));
            int b = queueOf(v);
            if (b >= 0) {
                stalls.get(b).queue.remove(Integer.valueOf(v));
            }
            return b;
        }

        int booth(int b, int what) {
            index(stall(b) && in(what, 0, 9));
            Stall s = stalls.get(b);
            int[] facts = {price(b), s.goal, s.prizes, s.needs, handsAt(b), open(b) ? 1 : 0,
                b == marked ? 1 : 0, s.queue.size(), s.plays, s.paid};
            return facts[what];
        }

        int queue(int b, int i) {
            index(stall(b) && in(i, 0, stalls.get(b).queue.size() - 1));
            return stalls.get(b).queue.get(i);
        }

        int helper(int h, int what) {
            index(hand(h) && in(what, 0, 2));
            Hand hand = hands.get(h);
            return new int[] {hand.strength, hand.stall, hand.worked}[what];
        }

        int visitor(int v, int what) {
            index(guest(v) && in(what, 0, 7));
            Guest g = guests.get(v);
            return new int[] {g.tokens, g.skill, stateOf(v), queueOf(v), g.prizes, g.marks, g.plays, g.best}[what];
        }

        int practice(int v, int b) {
            index(guest(v) && stall(b));
            return guests.get(v).practice[b];
        }

        int board(int line, int what) {
            index(in(line, 0, lines.size() - 1) && in(what, 0, 2));
            return lines.get(line)[what];
        }

        int pass(int rounds) {
            argument(in(rounds, 1, 200));
            int before = won();
            for (int i = 0; i < rounds; i++) {
                round();
            }
            return won() - before;
        }

        int count(int what) {
            index(in(what, 0, 10));
            int open = 0;
            int waiting = 0;
            int home = 0;
            int prizes = 0;
            for (int b = 0; b < stalls.size(); b++) {
                open += open(b) ? 1 : 0;
                waiting += stalls.get(b).queue.size();
                prizes += stalls.get(b).prizes;
            }
            for (Guest g : guests) {
                home += g.home ? 1 : 0;
            }
            return new int[] {round, stalls.size(), hands.size(), guests.size(), open, waiting, home,
                prizes, won(), lines.size(), dart}[what];
        }

        int foresee(int v, int rounds, int what) {
            index(guest(v) && in(what, 0, 2));
            argument(in(rounds, 1, 100));
            Model m = copy();
            m.pass(rounds);
            return m.visitor(v, new int[] {4, 0, 5}[what]);
        }

        int closes(int b) {
            index(stall(b));
            Model m = copy();
            for (int n = 0; n <= 100; n++) {
                if (!m.open(b)) {
                    return n;
                }
                m.round();
            }
            return -1;
        }

        int advise(int h, int rounds) {
            index(hand(h));
            argument(in(rounds, 1, 60));
            int[] won = new int[stalls.size() + 1];
            int most = 0;
            for (int b = -1; b < stalls.size(); b++) {
                Model m = copy();
                m.work(h, b);
                won[b + 1] = m.pass(rounds);
                most = Math.max(most, won[b + 1]);
            }
            int first = 0;
            while (won[first] < most) {
                first++;
            }
            return first - 1;
        }

        int plays() {
            int n = 0;
            for (Guest g : guests) {
                n += g.plays;
            }
            return n;
        }

        double luck() {
            return plays() == 0 ? 0 : (double) won() / plays();
        }

        long digest() {
            List<Integer> told = new ArrayList<>();
            for (int i = 0; i < 11; i++) {
                told.add(count(i));
            }
            for (int b = 0; b < stalls.size(); b++) {
                for (int i = 0; i < 10; i++) {
                    told.add(booth(b, i));
                }
                told.addAll(stalls.get(b).queue);
            }
            for (int h = 0; h < hands.size(); h++) {
                for (int i = 0; i < 3; i++) {
                    told.add(helper(h, i));
                }
            }
            for (int v = 0; v < guests.size(); v++) {
                for (int i = 0; i < 8; i++) {
                    told.add(visitor(v, i));
                }
                for (int b = 0; b < stalls.size(); b++) {
                    told.add(practice(v, b));
                }
            }
            for (int[] line : lines) {
                for (int n : line) {
                    told.add(n);
                }
            }
            long d = 653;
            for (int x : told) {
                d = d * 31 + x;
            }
            return d;
        }

        void round() {
            if (round % 12 == 0) {
                dart = (dart * 75 + 74) % 65537;
                marked = stalls.isEmpty() ? -1 : dart % stalls.size();
            }
            for (int v = 0; v < guests.size(); v++) {
                if (stateOf(v) == 0) {
                    choose(v);
                }
            }
            for (int b = 0; b < stalls.size(); b++) {
                int times = open(b) ? handsAt(b) : 0;
                while (times > 0 && !stalls.get(b).queue.isEmpty()) {
                    play(stalls.get(b).queue.remove(0), b);
                    times--;
                }
            }
            for (Hand h : hands) {
                if (h.stall >= 0) {
                    h.worked++;
                    h.strength--;
                    if (h.strength == 0) {
                        h.stall = -1;
                    }
                }
                if (h.stall < 0) {
                    h.strength = Math.min(24, h.strength + 2);
                }
            }
            if (round % 12 == 11) {
                for (int i = 0; i < lines.size(); i++) {
                    guests.get(lines.get(i)[0]).marks += 3 - i;
                    guests.get(lines.get(i)[0]).tokens += i == 0 ? 5 : 0;
                }
                lines.clear();
                for (int b = 0; b < stalls.size(); b++) {
                    if (!open(b)) {
                        stalls.get(b).queue.clear();
                    }
                }
            }
            round++;
        }

        void choose(int v) {
            Guest g = guests.get(v);
            List<Integer> fit = new ArrayList<>();
            for (int b = 0; b < stalls.size(); b++) {
                if (open(b) && stalls.get(b).prizes > 0 && price(b) <= g.tokens) {
                    fit.add(b);
                }
            }
            fit.sort((a, b) -> {
                int byQueue = stalls.get(a).queue.size() - stalls.get(b).queue.size();
                int byPractice = g.practice[b] - g.practice[a];
                return byQueue != 0 ? byQueue : byPractice != 0 ? byPractice : a - b;
            });
            if (!fit.isEmpty()) {
                stalls.get(fit.get(0)).queue.add(v);
            } else if (g.tokens == 0) {
                g.home = true;
            }
        }

        void play(int v, int b) {
            Guest g = guests.get(v);
            Stall s = stalls.get(b);
            if (g.tokens < price(b)) {
                return;
            }
            g.tokens -= price(b);
            s.paid += price(b);
            g.plays++;
            s.plays++;
            int points = g.skill + 3 * g.practice[b] + 5 * (handsAt(b) - s.needs);
            points *= b == marked ? 2 : 1;
            g.best = Math.max(g.best, points);
            g.practice[b] = Math.min(9, g.practice[b] + 1);
            int place = 0;
            while (place < lines.size() && lines.get(place)[2] >= points) {
                place++;
            }
            lines.add(place, new int[] {v, b, points});
            while (lines.size() > 3) {
                lines.remove(3);
            }
            if (points >= s.goal && s.prizes > 0) {
                s.prizes--;
                g.prizes++;
            }
        }
    }

    // ---- the runs

    /** A fixed row of numbers, so that each run of this test makes the same calls. */
    private static final class Numbers {
        long state;

        Numbers(long seed) {
            state = seed * 0x9E3779B97F4A7C15L + 1;
        }

        int below(int bound) {
            state = state * 6364136223846793005L + 1442695040888963407L;
            return (int) ((state >>> 33) % bound);
        }

        /** Most often least to most; now and then just outside, or far off. */
        int near(int least, int most) {
            int kind = below(60);
            if (kind == 0) {
                return least - 1;
            }
            if (kind == 1) {
                return most + 1;
            }
            if (kind == 2) {
                int[] far = {Integer.MIN_VALUE, Integer.MAX_VALUE, -7, 1 << 20};
                return far[below(4)];
            }
            if (kind < 8) {
                return least;
            }
            if (kind < 14) {
                return most;
            }
            return most < least ? least : least + below(most - least + 1);
        }
    }

    private static String answer(IntSupplier call) {
        try {
            return String.valueOf(call.getAsInt());
        } catch (RuntimeException e) {
            return e.getClass().getName();
        }
    }

    private static void same(String what, String got, String want) {
        if (!got.equals(want)) {
            wrong++;
            System.out.println(what + " answered " + got + ", the model " + want);
        }
    }

    private static void step(String where, FeteBoard x, Model m, Numbers n, int changesOnly) {
        int b = n.near(0, m.stalls.size() - 1);
        int h = n.near(0, m.hands.size() - 1);
        int v = n.near(0, m.guests.size() - 1);
        int kind = n.below(changesOnly);
        if (kind < 3) {
            int cost = n.near(1, n.below(2) == 0 ? 3 : 9);
            int goal = n.near(0, 60);
            int prizes = n.near(0, 99);
            int needs = n.near(1, 3);
            same(where + "addBooth", answer(() -> x.addBooth(cost, goal, prizes, needs)),
                    answer(() -> m.addBooth(cost, goal, prizes, needs)));
        } else if (kind < 7) {
            same(where + "addHelper", answer(() -> x.addHelper()), answer(() -> m.addHelper()));
        } else if (kind < 11) {
            int tokens = n.near(0, n.below(2) == 0 ? 9 : 200);
            int skill = n.near(0, 30);
            same(where + "come", answer(() -> x.come(tokens, skill)), answer(() -> m.come(tokens, skill)));
        } else if (kind < 13) {
            int dart = n.near(1, 65536);
            same(where + "setDart", answer(() -> x.setDart(dart)), answer(() -> m.setDart(dart)));
        } else if (kind < 23) {
            same(where + "work", answer(() -> x.work(h, b)), answer(() -> m.work(h, b)));
        } else if (kind < 25) {
            int prizes = n.near(1, n.below(2) == 0 ? 9 : 99);
            same(where + "bring", answer(() -> x.bring(b, prizes)), answer(() -> m.bring(b, prizes)));
        } else if (kind < 27) {
            int tokens = n.near(1, n.below(2) == 0 ? 9 : 200);
            same(where + "sell", answer(() -> x.sell(v, tokens)), answer(() -> m.sell(v, tokens)));
        } else if (kind < 29) {
            same(where + "leave", answer(() -> x.leave(v)), answer(() -> m.leave(v)));
        } else if (kind < 39) {
            int rounds = n.near(1, n.below(5) == 0 ? 200 : 4);
            same(where + "pass", answer(() -> x.pass(rounds)), answer(() -> m.pass(rounds)));
        } else {
            tell(where, x, m, n, b, h, v);
        }
    }

    private static void tell(String where, FeteBoard x, Model m, Numbers n, int b, int h, int v) {
        switch (n.below(11)) {
            case 0: {
                int what = n.near(0, 9);
                same(where + "booth", answer(() -> x.booth(b, what)), answer(() -> m.booth(b, what)));
                break;
            }
            case 1: {
                int place = n.near(0, 3);
                same(where + "queue", answer(() -> x.queue(b, place)), answer(() -> m.queue(b, place)));
                break;
            }
            case 2: {
                int what = n.near(0, 2);
                same(where + "helper", answer(() -> x.helper(h, what)), answer(() -> m.helper(h, what)));
                break;
            }
            case 3: {
                int what = n.near(0, 7);
                same(where + "visitor", answer(() -> x.visitor(v, what)), answer(() -> m.visitor(v, what)));
                break;
            }
            case 4:
                same(where + "practice", answer(() -> x.practice(v, b)), answer(() -> m.practice(v, b)));
                break;
            case 5: {
                int line = n.near(0, 2);
                int what = n.near(0, 2);
                same(where + "board", answer(() -> x.board(line, what)), answer(() -> m.board(line, what)));
                break;
            }
            case 6: {
                int what = n.near(0, 10);
                same(where + "count", answer(() -> x.count(what)), answer(() -> m.count(what)));
                break;
            }
            case 7: {
                int rounds = n.near(1, 100);
                int what = n.near(0, 2);
                same(where + "foresee", answer(() -> x.foresee(v, rounds, what)),
                        answer(() -> m.foresee(v, rounds, what)));
                break;
            }
            case 8:
                same(where + "luck", String.valueOf(x.luck()), String.valueOf(m.luck()));
                break;
            case 9:
                same(where + "closes", answer(() -> x.closes(b)), answer(() -> m.closes(b)));
                break;
            default: {
                int rounds = n.near(1, 60);
                same(where + "advise", answer(() -> x.advise(h, rounds)), answer(() -> m.advise(h, rounds)));
                break;
            }
        }
    }

    public static void main(String[] args) {
        int prizes = 0;
        int plays = 0;
        for (int run = 0; run < RUNS && wrong == 0; run++) {
            FeteBoard x = new FeteBoard();
            Model m = new Model();
            Numbers n = new Numbers(run);
            // Some runs look ahead often, some seldom.
            int kinds = 40 + n.below(25);
            for (int call = 0; call < CALLS && wrong == 0; call++) {
                String where = "run " + run + ", call " + call + ": ";
                step(where, x, m, n, kinds);
                same(where + "digest", String.valueOf(x.digest()), String.valueOf(m.digest()));
            }
            prizes += m.won();
            plays += m.plays();
        }
        if (wrong == 0 && (prizes < RUNS || plays - prizes < RUNS)) {
            wrong++;
            System.out.println("the runs are too poor: " + plays + " plays, " + prizes + " prizes");
        }
        System.out.println(wrong == 0 ? RUNS + " runs like the model's: " + plays + " plays, " + prizes + " prizes"
                : "not like the model");
        if (wrong != 0) {
            System.exit(1);
        }
    }
}
