/** A village fete: booths, helpers, visitors, an hourly dart and a chalk board. */
public final class FeteBoard {
    private static final int MOST_BOOTHS = 8;
    private static final int MOST_HELPERS = 12;
    private static final int MOST_VISITORS = 16;
    private static final int MOST_LINES = 3;

    private static final int MOST_COST = 9;
    private static final int MOST_GOAL = 60;
    private static final int MOST_PRIZES = 99;
    private static final int MOST_NEEDS = 3;
    private static final int MOST_TOKENS_AT_ONCE = 200;
    private static final int MOST_SKILL = 30;
    private static final int MOST_PRACTICE = 9;
    private static final int MOST_STRENGTH = 24;

    private static final int HOUR = 12;
    private static final int DART_MODULUS = 65537;

    private static final int MOST_ROUNDS_PASSED = 200;
    private static final int MOST_ROUNDS_FORESEEN = 100;
    private static final int MOST_ROUNDS_ADVISED = 60;

    private static final int BOOTH_FACTS = 10;
    private static final int HELPER_FACTS = 3;
    private static final int VISITOR_FACTS = 8;
    private static final int LINE_FACTS = 3;
    private static final int COUNTS = 11;
    private static final int FORESEEN_FACTS = 3;

    private static final int NONE = -1;

    private final Fete now;

    // Looking ahead is played here, made once, so that these calls make no objects.
    private final Fete trial;

    public FeteBoard() {
        now = new Fete();
        trial = new Fete();
    }

    // ---- booths, helpers, visitors

    public int addBooth(int cost, int goal, int prizes, int needs)
            throws IllegalArgumentException, IllegalStateException {
        requireRange(cost, 1, MOST_COST);
        requireRange(goal, 0, MOST_GOAL);
        requireRange(prizes, 0, MOST_PRIZES);
        requireRange(needs, 1, MOST_NEEDS);
        int number = now.setUpBooth(cost, goal, prizes, needs);
        if (number == NONE) {
            throw new IllegalStateException("no room for another booth");
        }
        return number;
    }

    public int addHelper() throws IllegalStateException {
        int number = now.takeOnHelper();
        if (number == NONE) {
            throw new IllegalStateException("no room for another helper");
        }
        return number;
    }

    public int come(int tokens, int skill) throws IllegalArgumentException, IllegalStateException {
        requireRange(tokens, 0, MOST_TOKENS_AT_ONCE);
        requireRange(skill, 0, MOST_SKILL);
        int number = now.letIn(tokens, skill);
        if (number == NONE) {
            throw new IllegalStateException("no room for another visitor");
        }
        return number;
    }

    public int setDart(int dart) throws IllegalArgumentException {
        requireRange(dart, 1, DART_MODULUS - 1);
        int before = now.dart;
        now.dart = dart;
        return before;
    }

    public int work(int helper, int booth) throws IndexOutOfBoundsException {
        requireHelper(helper);
        if (booth != NONE) {
            requireBooth(booth);
        }
        int before = now.helpers[helper].at;
        now.send(helper, booth);
        return before;
    }

    public int bring(int booth, int prizes)
            throws IndexOutOfBoundsException, IllegalArgumentException, IllegalStateException {
        requireBooth(booth);
        requireRange(prizes, 1, MOST_PRIZES);
        Booth there = now.booths[booth];
        if (there.prizes + prizes > MOST_PRIZES) {
            throw new IllegalStateException("too many prizes for one booth");
        }
        there.prizes += prizes;
        return there.prizes;
    }

    public int sell(int visitor, int tokens) throws IndexOutOfBoundsException, IllegalArgumentException {
        requireVisitor(visitor);
        requireRange(tokens, 1, MOST_TOKENS_AT_ONCE);
        Visitor who = now.visitors[visitor];
        who.tokens += tokens;
        who.home = false;
        return who.tokens;
    }

    public int leave(int visitor) throws IndexOutOfBoundsException {
        requireVisitor(visitor);
        return now.takeFromQueue(visitor);
    }

    // ---- what is there

    public int booth(int booth, int what) throws IndexOutOfBoundsException {
        requireBooth(booth);
        requireFact(what, BOOTH_FACTS);
        return now.boothFact(booth, what);
    }

    public int queue(int booth, int index) throws IndexOutOfBoundsException {
        requireBooth(booth);
        Booth there = now.booths[booth];
        if (index < 0 || index >= there.queued) {
            throw new IndexOutOfBoundsException("no such place in the queue");
        }
        return there.queue[index];
    }

    public int helper(int helper, int what) throws IndexOutOfBoundsException {
        requireHelper(helper);
        requireFact(what, HELPER_FACTS);
        return now.helpers[helper].fact(what);
    }

    public int visitor(int visitor, int what) throws IndexOutOfBoundsException {
        requireVisitor(visitor);
        requireFact(what, VISITOR_FACTS);
        return now.visitors[visitor].fact(what);
    }

    public int practice(int visitor, int booth) throws IndexOutOfBoundsException {
        requireVisitor(visitor);
        requireBooth(booth);
        return now.visitors[visitor].practice[booth];
    }

    public int board(int line, int what) throws IndexOutOfBoundsException {
        if (line < 0 || line >= now.chalk.lines) {
            throw new IndexOutOfBoundsException("no such line");
        }
        requireFact(what, LINE_FACTS);
        return now.chalk.fact(line, what);
    }

    // ---- rounds

    public int pass(int rounds) throws IllegalArgumentException {
        requireRange(rounds, 1, MOST_ROUNDS_PASSED);
        return now.goOn(rounds);
    }

    public int count(int what) throws IndexOutOfBoundsException {
        requireFact(what, COUNTS);
        return now.total(what);
    }

    // ---- looking ahead

    public int foresee(int visitor, int rounds, int what)
            throws IndexOutOfBoundsException, IllegalArgumentException {
        requireVisitor(visitor);
        requireFact(what, FORESEEN_FACTS);
        requireRange(rounds, 1, MOST_ROUNDS_FORESEEN);
        trial.copyFrom(now);
        trial.goOn(rounds);
        return trial.visitors[visitor].foreseenFact(what);
    }

    public int closes(int booth) throws IndexOutOfBoundsException {
        requireBooth(booth);
        trial.copyFrom(now);
        for (int behind = 0; behind <= MOST_ROUNDS_FORESEEN; behind++) {
            if (!trial.booths[booth].isOpen()) {
                return behind;
            }
            trial.playRound();
        }
        return NONE;
    }

    public int advise(int helper, int rounds) throws IndexOutOfBoundsException, IllegalArgumentException {
        requireHelper(helper);
        requireRange(rounds, 1, MOST_ROUNDS_ADVISED);
        int best = NONE;
        int most = prizesWonWith(helper, NONE, rounds);
        for (int b = 0; b < now.boothCount; b++) {
            int won = prizesWonWith(helper, b, rounds);
            if (won > most) {
                most = won;
                best = b;
            }
        }
        return best;
    }

    public double luck() {
        int plays = now.allPlays();
        if (plays == 0) {
            return 0;
        }
        return (double) now.won / (double) plays;
    }

    public long digest() {
        long d = 653;
        for (int what = 0; what < COUNTS; what++) {
            d = mixed(d, now.total(what));
        }
        for (int b = 0; b < now.boothCount; b++) {
            d = withBooth(d, b);
        }
        for (int h = 0; h < now.helperCount; h++) {
            for (int what = 0; what < HELPER_FACTS; what++) {
                d = mixed(d, now.helpers[h].fact(what));
            }
        }
        for (int v = 0; v < now.visitorCount; v++) {
            d = withVisitor(d, now.visitors[v]);
        }
        for (int line = 0; line < now.chalk.lines; line++) {
            for (int what = 0; what < LINE_FACTS; what++) {
                d = mixed(d, now.chalk.fact(line, what));
            }
        }
        return d;
    }

    private long withBooth(long digest, int booth) {
        long d = digest;
        for (int what = 0; what < BOOTH_FACTS; what++) {
            d = mixed(d, now.boothFact(booth, what));
        }
        Booth there = now.booths[booth];
        for (int i = 0; i < there.queued; i++) {
            d = mixed(d, there.queue[i]);
        }
        return d;
    }

    private long withVisitor(long digest, Visitor who) {
        long d = digest;
        for (int what = 0; what < VISITOR_FACTS; what++) {
            d = mixed(d, who.fact(what));
        }
        for (int b = 0; b < now.boothCount; b++) {
            d = mixed(d, who.practice[b]);
        }
        return d;
    }

    private static long mixed(long digest, int number) {
        return digest * 31 + number;
    }

    private int prizesWonWith(int helper, int booth, int rounds) {
        trial.copyFrom(now);
        trial.send(helper, booth);
        return trial.goOn(rounds);
    }

    private void requireBooth(int booth) {
        if (!now.isBooth(booth)) {
            throw new IndexOutOfBoundsException("no such booth");
        }
    }

    private void requireHelper(int helper) {
        if (!now.isHelper(helper)) {
            throw new IndexOutOfBoundsException("no such helper");
        }
    }

    private void requireVisitor(int visitor) {
        if (!now.isVisitor(visitor)) {
            throw new IndexOutOfBoundsException("no such visitor");
        }
    }

    private static void requireFact(int what, int facts) {
        if (what < 0 || what >= facts) {
            throw new IndexOutOfBoundsException("no such fact");
        }
    }

    private static void requireRange(int number, int least, int most) {
        if (number < least || number > most) {
            throw new IllegalArgumentException("a number out of its range");
        }
    }

    private static final class Booth {
        int cost;
        int goal;
        int prizes;
        int needs;
        int workers;
        int plays;
        int paid;
        int queued;
        final int[] queue = new int[MOST_VISITORS];

        void begin(int costAsked, int goalSet, int prizesBrought, int helpersNeeded) {
            cost = costAsked;
            goal = goalSet;
            prizes = prizesBrought;
            needs = helpersNeeded;
        }

        void copyFrom(Booth other) {
            cost = other.cost;
            goal = other.goal;
            prizes = other.prizes;
            needs = other.needs;
            workers = other.workers;
            plays = other.plays;
            paid = other.paid;
            queued = other.queued;
            for (int i = 0; i < MOST_VISITORS; i++) {
                queue[i] = other.queue[i];
            }
        }

        boolean isOpen() {
            return workers >= needs;
        }

        boolean enqueue(int visitor) {
            if (queued < 0 || queued >= MOST_VISITORS) {
                return false;
            }
            queue[queued] = visitor;
            queued++;
            return true;
        }

        void dequeue(int visitor) {
            int kept = 0;
            for (int i = 0; i < queued && i < MOST_VISITORS; i++) {
                if (queue[i] != visitor) {
                    queue[kept] = queue[i];
                    kept++;
                }
            }
            queued = kept;
        }
    }

    private static final class Helper {
        int strength;
        int at;
        int worked;

        void begin() {
            strength = MOST_STRENGTH;
            at = NONE;
        }

        void copyFrom(Helper other) {
            strength = other.strength;
            at = other.at;
            worked = other.worked;
        }

        void rest() {
            strength = Math.min(strength + 2, MOST_STRENGTH);
        }

        int fact(int what) {
            switch (what) {
                case 0: return strength;
                case 1: return at;
                default: return worked;
            }
        }
    }

    private static final class Visitor {
        int tokens;
        int skill;
        boolean home;
        int at;
        int prizes;
        int marks;
        int plays;
        int mostPoints;
        final int[] practice = new int[MOST_BOOTHS];

        void begin(int tokensBrought, int skillBrought) {
            tokens = tokensBrought;
            skill = skillBrought;
            at = NONE;
        }

        void copyFrom(Visitor other) {
            tokens = other.tokens;
            skill = other.skill;
            home = other.home;
            at = other.at;
            prizes = other.prizes;
            marks = other.marks;
            plays = other.plays;
            mostPoints = other.mostPoints;
            for (int b = 0; b < MOST_BOOTHS; b++) {
                practice[b] = other.practice[b];
            }
        }

        boolean strolls() {
            return !home && at == NONE;
        }

        int state() {
            if (home) {
                return 2;
            }
            return at == NONE ? 0 : 1;
        }

        int fact(int what) {
            switch (what) {
                case 0: return tokens;
                case 1: return skill;
                case 2: return state();
                case 3: return at;
                case 4: return prizes;
                case 5: return marks;
                case 6: return plays;
                default: return mostPoints;
            }
        }

        int foreseenFact(int what) {
            switch (what) {
                case 0: return prizes;
                case 1: return tokens;
                default: return marks;
            }
        }
    }

    private static final class Chalk {
        int lines;
        final int[] visitors = new int[MOST_LINES];
        final int[] booths = new int[MOST_LINES];
        final int[] points = new int[MOST_LINES];

        void copyFrom(Chalk other) {
            lines = other.lines;
            for (int line = 0; line < MOST_LINES; line++) {
                visitors[line] = other.visitors[line];
                booths[line] = other.booths[line];
                points[line] = other.points[line];
            }
        }

        void write(int visitor, int booth, int score) {
            int place = 0;
            for (int line = 0; line < lines && line < MOST_LINES; line++) {
                if (points[line] >= score) {
                    place = line + 1;
                }
            }
            if (place >= MOST_LINES) {
                return;
            }
            lines = Math.min(lines + 1, MOST_LINES);
            for (int line = lines - 1; line > place; line--) {
                visitors[line] = visitors[line - 1];
                booths[line] = booths[line - 1];
                points[line] = points[line - 1];
            }
            visitors[place] = visitor;
            booths[place] = booth;
            points[place] = score;
        }

        int fact(int line, int what) {
            switch (what) {
                case 0: return visitors[line];
                case 1: return booths[line];
                default: return points[line];
            }
        }
    }

    /** All that is on the green, so that it can be copied and played ahead. */
    private static final class Fete {
        final Booth[] booths = new Booth[MOST_BOOTHS];
        int boothCount;
        final Helper[] helpers = new Helper[MOST_HELPERS];
        int helperCount;
        final Visitor[] visitors = new Visitor[MOST_VISITORS];
        int visitorCount;
        final Chalk chalk = new Chalk();
        int round;
        int dart = 1;
        int marked = NONE;
        int won;

        // All rows are filled here, so that none of their places is ever null.
        Fete() {
            for (int b = 0; b < MOST_BOOTHS; b++) {
                booths[b] = new Booth();
            }
            for (int h = 0; h < MOST_HELPERS; h++) {
                helpers[h] = new Helper();
            }
            for (int v = 0; v < MOST_VISITORS; v++) {
                visitors[v] = new Visitor();
            }
        }

        void copyFrom(Fete other) {
            boothCount = other.boothCount;
            helperCount = other.helperCount;
            visitorCount = other.visitorCount;
            round = other.round;
            dart = other.dart;
            marked = other.marked;
            won = other.won;
            for (int b = 0; b < boothCount; b++) {
                booths[b].copyFrom(other.booths[b]);
            }
            for (int h = 0; h < helperCount; h++) {
                helpers[h].copyFrom(other.helpers[h]);
            }
            for (int v = 0; v < visitorCount; v++) {
                visitors[v].copyFrom(other.visitors[v]);
            }
            chalk.copyFrom(other.chalk);
        }

        boolean isBooth(int booth) {
            return booth >= 0 && booth < boothCount;
        }

        boolean isHelper(int helper) {
            return helper >= 0 && helper < helperCount;
        }

        boolean isVisitor(int visitor) {
            return visitor >= 0 && visitor < visitorCount;
        }

        // This and the two below answer NONE when there is no room, for the face to throw.
        int setUpBooth(int cost, int goal, int prizes, int needs) {
            if (boothCount >= MOST_BOOTHS) {
                return NONE;
            }
            booths[boothCount].begin(cost, goal, prizes, needs);
            boothCount++;
            return boothCount - 1;
        }

        int takeOnHelper() {
            if (helperCount >= MOST_HELPERS) {
                return NONE;
            }
            helpers[helperCount].begin();
            helperCount++;
            return helperCount - 1;
        }

        int letIn(int tokens, int skill) {
            if (visitorCount >= MOST_VISITORS) {
                return NONE;
            }
            visitors[visitorCount].begin(tokens, skill);
            visitorCount++;
            return visitorCount - 1;
        }

        void send(int helper, int booth) {
            if (!isHelper(helper)) {
                return;
            }
            Helper who = helpers[helper];
            if (isBooth(who.at)) {
                booths[who.at].workers--;
            }
            who.at = isBooth(booth) ? booth : NONE;
            if (isBooth(who.at)) {
                booths[who.at].workers++;
            }
        }

        int takeFromQueue(int visitor) {
            if (!isVisitor(visitor)) {
                return NONE;
            }
            Visitor who = visitors[visitor];
            int before = who.at;
            if (isBooth(before)) {
                booths[before].dequeue(visitor);
            }
            who.at = NONE;
            return before;
        }

        int costNow(int booth) {
            return booth == marked ? booths[booth].cost - 1 : booths[booth].cost;
        }

        // The answer is the prizes that were won in these rounds.
        int goOn(int rounds) {
            int before = won;
            for (int i = 0; i < rounds; i++) {
                playRound();
            }
            return won - before;
        }

        void playRound() {
            if (round % HOUR == 0) {
                throwDart();
            }
            for (int v = 0; v < visitorCount; v++) {
                if (visitors[v].strolls()) {
                    choose(v);
                }
            }
            for (int b = 0; b < boothCount; b++) {
                if (booths[b].isOpen()) {
                    serve(b);
                }
            }
            for (int h = 0; h < helperCount; h++) {
                tireOrRest(h);
            }
            if (round % HOUR == HOUR - 1) {
                endHour();
            }
            round++;
        }

        private void throwDart() {
            dart = (dart * 75 + 74) % DART_MODULUS;
            marked = boothCount > 0 ? dart % boothCount : NONE;
        }

        private void choose(int visitor) {
            Visitor who = visitors[visitor];
            int best = NONE;
            for (int b = 0; b < boothCount; b++) {
                if (invites(b, who) && (best == NONE || isBetter(b, best, who))) {
                    best = b;
                }
            }
            if (isBooth(best)) {
                if (booths[best].enqueue(visitor)) {
                    who.at = best;
                }
            } else if (who.tokens == 0) {
                who.home = true;
            }
        }

        private boolean invites(int booth, Visitor who) {
            Booth there = booths[booth];
            return there.isOpen() && there.prizes > 0 && costNow(booth) <= who.tokens;
        }

        private boolean isBetter(int booth, int other, Visitor who) {
            int shorter = booths[other].queued - booths[booth].queued;
            if (shorter != 0) {
                return shorter > 0;
            }
            return who.practice[booth] > who.practice[other];
        }

        private void serve(int booth) {
            Booth there = booths[booth];
            int times = Math.min(there.workers, there.queued);
            for (int i = 0; i < times; i++) {
                int first = there.queue[0];
                takeFromQueue(first);
                // The cost may have risen since this one chose, with the mark gone elsewhere.
                if (isVisitor(first) && visitors[first].tokens >= costNow(booth)) {
                    play(first, booth);
                }
            }
        }

        private void play(int visitor, int booth) {
            Visitor who = visitors[visitor];
            Booth there = booths[booth];
            int cost = costNow(booth);
            who.tokens -= cost;
            there.paid += cost;
            int points = pointsOf(who, booth);
            chalk.write(visitor, booth, points);
            who.practice[booth] = Math.min(who.practice[booth] + 1, MOST_PRACTICE);
            who.plays++;
            there.plays++;
            who.mostPoints = Math.max(who.mostPoints, points);
            if (points >= there.goal && there.prizes > 0) {
                there.prizes--;
                who.prizes++;
                won++;
            }
        }

        private int pointsOf(Visitor who, int booth) {
            Booth there = booths[booth];
            int points = who.skill + 3 * who.practice[booth] + 5 * (there.workers - there.needs);
            return booth == marked ? 2 * points : points;
        }

        private void tireOrRest(int helper) {
            Helper who = helpers[helper];
            if (who.at != NONE) {
                who.worked++;
                who.strength--;
                if (who.strength > 0) {
                    return;
                }
                send(helper, NONE);
            }
            who.rest();
        }

        private void endHour() {
            for (int line = 0; line < chalk.lines && line < MOST_LINES; line++) {
                rewardLine(line);
            }
            chalk.lines = 0;
            for (int v = 0; v < visitorCount; v++) {
                int at = visitors[v].at;
                if (isBooth(at) && !booths[at].isOpen()) {
                    takeFromQueue(v);
                }
            }
        }

        private void rewardLine(int line) {
            int visitor = chalk.visitors[line];
            if (!isVisitor(visitor)) {
                return;
            }
            visitors[visitor].marks += MOST_LINES - line;
            if (line == 0) {
                visitors[visitor].tokens += 5;
            }
        }

        int allPlays() {
            int plays = 0;
            for (int b = 0; b < boothCount; b++) {
                plays += booths[b].plays;
            }
            return plays;
        }

        int boothFact(int booth, int what) {
            Booth there = booths[booth];
            switch (what) {
                case 0: return costNow(booth);
                case 1: return there.goal;
                case 2: return there.prizes;
                case 3: return there.needs;
                case 4: return there.workers;
                case 5: return there.isOpen() ? 1 : 0;
                case 6: return booth == marked ? 1 : 0;
                case 7: return there.queued;
                case 8: return there.plays;
                default: return there.paid;
            }
        }

        int total(int what) {
            switch (what) {
                case 0: return round;
                case 1: return boothCount;
                case 2: return helperCount;
                case 3: return visitorCount;
                case 4: return openBooths();
                case 5: return visitorsIn(1);
                case 6: return visitorsIn(2);
                case 7: return prizesLeft();
                case 8: return won;
                case 9: return chalk.lines;
                default: return dart;
            }
        }

        private int openBooths() {
            int open = 0;
            for (int b = 0; b < boothCount; b++) {
                open += booths[b].isOpen() ? 1 : 0;
            }
            return open;
        }

        private int visitorsIn(int state) {
            int there = 0;
            for (int v = 0; v < visitorCount; v++) {
                there += visitors[v].state() == state ? 1 : 0;
            }
            return there;
        }

        private int prizesLeft() {
            int prizes = 0;
            for (int b = 0; b < boothCount; b++) {
                prizes += booths[b].prizes;
            }
            return prizes;
        }
    }
}
