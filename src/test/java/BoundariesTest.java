import java.math.BigInteger;

/**
 * Each sentence of the document that names a boundary case (too small, too large, empty, full, a
 * wrap-around, a refused call), in the document's order: its words stand above a test of its own.
 * No object here is used for more than 512 calls, since what later ones answer is free.
 */
public final class BoundariesTest {
    private static final Class<?> ARGUMENT = IllegalArgumentException.class;
    private static final Class<?> STATE = IllegalStateException.class;
    private static final Class<?> INDEX = IndexOutOfBoundsException.class;
    private static final int LEAST_INT = Integer.MIN_VALUE;
    private static final int MOST_INT = Integer.MAX_VALUE;

    private static int wrong = 0;

    private interface Call {
        int make();
    }

    private interface CallWith {
        int make(int number);
    }

    private static void due(String what, long got, long want) {
        if (got != want) {
            wrong++;
            System.out.println(what + " answered " + got + ", due is " + want);
        }
    }

    private static void dueLuck(String what, double got, double want) {
        if (got != want) {
            wrong++;
            System.out.println(what + " answered " + got + ", due is " + want);
        }
    }

    /** The very class is asked for, so that one of the machine's own below it doesn't pass. */
    private static void thrown(String what, Class<?> want, Call call) {
        Class<?> got = null;
        try {
            call.make();
        } catch (RuntimeException e) {
            got = e.getClass();
        }
        if (got != want) {
            wrong++;
            System.out.println(what + " threw " + got + ", due is " + want);
        }
    }

    /** "A method that throws an exception changes nothing." */
    private static void refused(String what, FeteBoard x, Class<?> want, Call call) {
        long before = x.digest();
        thrown(what, want, call);
        due(what + " threw, the digest then", x.digest(), before);
    }

    /** Just outside of least to most, further outside, and as far as an int goes. */
    private static void refusedOutside(String what, FeteBoard x, Class<?> want, int least, int most, CallWith call) {
        int[] outside = {least - 1, most + 1, least - 2, most + 2, least - 65536, most + 65536, LEAST_INT,
            LEAST_INT + 1, MOST_INT, MOST_INT - 1};
        long before = x.digest();
        for (int number : outside) {
            thrown(what + " " + number, want, () -> call.make(number));
        }
        due(what + " outside threw, the digest then", x.digest(), before);
    }

    private static void factsOf(String what, CallWith fact, int... want) {
        for (int i = 0; i < want.length; i++) {
            due(what + ", fact " + i, fact.make(i), want[i]);
        }
    }

    private static void queueIs(String what, FeteBoard x, int booth, int... visitors) {
        due(what + ", length", x.booth(booth, 7), visitors.length);
        for (int i = 0; i < visitors.length && i < x.booth(booth, 7); i++) {
            due(what + ", place " + i, x.queue(booth, i), visitors[i]);
        }
    }

    private static void lineIs(String what, FeteBoard x, int line, int visitor, int booth, int points) {
        if (line >= x.count(9)) {
            due(what + ", lines", x.count(9), line + 1);
            return;
        }
        factsOf(what, i -> x.board(line, i), visitor, booth, points);
    }

    private static void helpersAt(FeteBoard x, int booth, int helpers) {
        for (int h = 0; h < helpers; h++) {
            x.work(x.addHelper(), booth);
        }
    }

    /** In its second round, so that in this hour no booth is marked that is set up now. */
    private static FeteBoard unmarkedGreen() {
        FeteBoard x = new FeteBoard();
        x.pass(1);
        return x;
    }

    /** One booth, which is marked then in each hour. */
    private static FeteBoard greenWithBooth(int cost, int goal, int prizes, int needs) {
        FeteBoard x = new FeteBoard();
        x.addBooth(cost, goal, prizes, needs);
        return x;
    }

    private static FeteBoard unmarkedGreenWithBooth(int cost, int goal, int prizes, int needs) {
        FeteBoard x = unmarkedGreen();
        x.addBooth(cost, goal, prizes, needs);
        return x;
    }

    private static FeteBoard fullGreen() {
        FeteBoard x = new FeteBoard();
        for (int b = 0; b < 8; b++) {
            x.addBooth(1 + b, 7 * b, 99, 1 + b % 3);
        }
        for (int h = 0; h < 12; h++) {
            x.work(x.addHelper(), h % 6);
        }
        for (int v = 0; v < 16; v++) {
            x.come(200 - v, 2 * v);
        }
        return x;
    }

    /** A full green with fewer tokens, where queues wait, and some have gone home, and others soon will. */
    private static FeteBoard busyGreen(int rounds) {
        FeteBoard x = new FeteBoard();
        for (int b = 0; b < 8; b++) {
            x.addBooth(1 + b % 3, 5 * b, 20, 1 + b % 3);
        }
        for (int h = 0; h < 12; h++) {
            x.work(x.addHelper(), h % 6);
        }
        for (int v = 0; v < 16; v++) {
            x.come(v * v / 2, 30 - v);
        }
        if (rounds > 0) {
            x.pass(rounds);
        }
        return x;
    }

    public static void main(String[] args) {
        howLongAnObjectIsUsed();
        theDart();
        theBooths();
        theHelpers();
        theVisitors();
        theBoard();
        firstRoundOfAnHour();
        whoChooses();
        whichBoothIsChosen();
        whoGoesHome();
        whoPlays();
        whatAPlayBrings();
        helpersInARound();
        lastRoundOfAnHour();
        refusals();
        whatIsThere();
        roundsAndCounts();
        lookingAhead();
        luckAndDigest();
        System.out.println(wrong == 0 ? "all boundaries hold" : wrong + " answers are not as due");
        if (wrong != 0) {
            System.exit(1);
        }
    }

    // ---- "An object is used for at most 512 calls after it has been made"

    private static void howLongAnObjectIsUsed() {
        FeteBoard x = new FeteBoard();
        for (int call = 1; call <= 511; call++) {
            x.pass(200);
        }
        due("the round in the 512th call", x.count(0), 511 * 200);
        FeteBoard y = new FeteBoard();
        y.come(200, 0);
        for (int call = 2; call <= 511; call++) {
            y.sell(0, 200);
        }
        due("the tokens in the 512th call", y.visitor(0, 0), 511 * 200);
        refusedUpToTheLastCall();
        fullUpToTheLastCall();
    }

    private static void refusedUpToTheLastCall() {
        FeteBoard x = new FeteBoard();
        for (int call = 1; call <= 510; call++) {
            thrown("refused call " + call, ARGUMENT, () -> x.pass(0));
        }
        due("the 511th call", x.pass(1), 0);
        due("one round went by", x.count(0), 1);
    }

    /** A full green takes 48 calls, and the last two tell what came of it. */
    private static void fullUpToTheLastCall() {
        FeteBoard x = fullGreen();
        int won = 0;
        for (int turn = 0; 48 + 4 * (turn + 1) + 2 <= 512; turn++) {
            int helper = turn % 12;
            x.work(helper, x.advise(helper, 60));
            x.sell(turn % 16, 200);
            won += x.pass(200);
        }
        due("all that was won", x.count(8), won);
        due("the prizes that are left", x.count(7), 8 * 99 - won);
    }

    // ---- Terms: the dart

    private static void theDart() {
        dartIsOneAtFirst();
        dartWrapsAround();
        noneIsMarkedWithoutBooths();
        noneIsMarkedAheadOfTheFirstHour();
        eachRemainderOfEightBooths();
        markStaysTillTheNextHour();
        markedCostIsOneLess();
    }

    /** "A number, the dart, is 1 at first" */
    private static void dartIsOneAtFirst() {
        FeteBoard x = new FeteBoard();
        due("dart at first", x.count(10), 1);
        x.pass(1);
        due("dart of the first hour", x.count(10), 149);
        x.pass(12);
        due("dart of the second hour", x.count(10), 149 * 75 + 74);
    }

    /** "it becomes (dart * 75 + 74) by the remainder of 65537" */
    private static void dartWrapsAround() {
        int[][] darts = {{1, 149}, {872, 65474}, {873, 12}, {45438, 0}, {65535, 65461}, {65536, 65536}};
        for (int[] dart : darts) {
            FeteBoard x = new FeteBoard();
            x.setDart(dart[0]);
            x.pass(1);
            due("dart behind " + dart[0], x.count(10), dart[1]);
        }
        FeteBoard x = new FeteBoard();
        for (int b = 0; b < 3; b++) {
            x.addBooth(1, 0, 0, 1);
        }
        x.setDart(45438);
        x.pass(1);
        due("dart 0 marks booth 0", x.booth(0, 6), 1);
        x.pass(12);
        due("dart behind 0", x.count(10), 74);
        due("dart 74 marks booth 2", x.booth(2, 6), 1);
        FeteBoard y = new FeteBoard();
        y.setDart(45438);
        y.pass(1);
        due("it was 0", y.setDart(1), 0);
    }

    /** "the marked booth in this hour is the one ... (none without booths" */
    private static void noneIsMarkedWithoutBooths() {
        FeteBoard x = new FeteBoard();
        x.pass(1);
        due("the dart of an hour without booths", x.count(10), 149);
        x.addBooth(3, 0, 0, 1);
        due("marked, set up in an hour without booths", x.booth(0, 6), 0);
        due("its cost", x.booth(0, 0), 3);
        x.pass(11);
        due("marked, to this hour's end", x.booth(0, 6), 0);
        x.pass(1);
        due("marked, in the next hour", x.booth(0, 6), 1);
        due("its cost then", x.booth(0, 0), 2);
    }

    /** "... and ahead of the first hour)" */
    private static void noneIsMarkedAheadOfTheFirstHour() {
        FeteBoard x = greenWithBooth(3, 0, 0, 1);
        x.setDart(7);
        due("marked ahead of the first hour", x.booth(0, 6), 0);
        due("its cost", x.booth(0, 0), 3);
        x.pass(1);
        due("marked in the first hour", x.booth(0, 6), 1);
    }

    /** "the one with the number dart by the remainder of the booths that there are then" */
    private static void eachRemainderOfEightBooths() {
        for (int booths = 1; booths <= 8; booths++) {
            for (int dart = 1; dart <= 9; dart++) {
                FeteBoard x = new FeteBoard();
                for (int b = 0; b < booths; b++) {
                    x.addBooth(9, 0, 0, 1);
                }
                x.setDart(dart);
                x.pass(1);
                for (int b = 0; b < booths; b++) {
                    int marked = (dart * 75 + 74) % booths == b ? 1 : 0;
                    due("dart " + dart + ", booth " + b + " of " + booths, x.booth(b, 6), marked);
                }
            }
        }
    }

    /** "it stays so till the next hour begins, also if booths are set up or the dart is told" */
    private static void markStaysTillTheNextHour() {
        FeteBoard x = new FeteBoard();
        x.addBooth(2, 0, 0, 1);
        x.addBooth(2, 0, 0, 1);
        x.pass(1);
        for (int b = 2; b < 8; b++) {
            x.addBooth(2, 0, 0, 1);
            x.setDart(b);
            due("149 % 2 with " + (b + 1) + " booths", x.booth(1, 6), 1);
            due("the new one", x.booth(b, 6), 0);
        }
        x.setDart(2);
        x.pass(11);
        due("behind the hour's last round", x.booth(1, 6), 1);
        due("the dart that was told", x.count(10), 2);
        x.pass(1);
        due("no longer", x.booth(1, 6), 0);
        due("224 % 8", x.booth(0, 6), 1);
    }

    /** "Where it is marked, its cost is 1 less." */
    private static void markedCostIsOneLess() {
        for (int cost = 1; cost <= 9; cost++) {
            FeteBoard x = greenWithBooth(cost, 60, 9, 1);
            x.come(cost, 0);
            helpersAt(x, 0, 1);
            due("cost ahead of the mark", x.booth(0, 0), cost);
            x.pass(1);
            due("cost with the mark", x.booth(0, 0), cost - 1);
            due("paid with the mark", x.booth(0, 9), cost - 1);
            due("left with the mark", x.visitor(0, 0), 1);
        }
    }

    // ---- Terms: booths, helpers, visitors, the board

    private static void theBooths() {
        atMostEightBooths();
        openByEnoughHelpers();
    }

    /** "There are at most 8, numbered from 0 in the order of their setting up" */
    private static void atMostEightBooths() {
        FeteBoard x = new FeteBoard();
        for (int b = 0; b < 8; b++) {
            due("number", x.addBooth(9 - b, b, 2 * b, 1), b);
            due("booths", x.count(1), b + 1);
        }
        refused("a ninth booth", x, STATE, () -> x.addBooth(1, 0, 0, 1));
        for (int b = 0; b < 8; b++) {
            int booth = b;
            factsOf("booth " + b, i -> x.booth(booth, i), 9 - b, b, 2 * b, 1, 0, 0, 0, 0, 0, 0);
        }
    }

    /** "It is open, if as many helpers as it needs, or more, work there." */
    private static void openByEnoughHelpers() {
        for (int needs = 1; needs <= 3; needs++) {
            FeteBoard x = greenWithBooth(1, 0, 0, needs);
            for (int helpers = 0; helpers <= 12; helpers++) {
                int open = helpers >= needs ? 1 : 0;
                due(helpers + " of " + needs + " helpers", x.booth(0, 5), open);
                due("those who work there", x.booth(0, 4), helpers);
                due("open booths", x.count(4), open);
                if (helpers < 12) {
                    helpersAt(x, 0, 1);
                }
            }
        }
    }

    /** "There are at most 12 ...; each has strength, 0 to 24 (24, at first), and ... rests, at first" */
    private static void theHelpers() {
        FeteBoard x = new FeteBoard();
        for (int h = 0; h < 12; h++) {
            int helper = h;
            due("number", x.addHelper(), h);
            factsOf("a new helper", i -> x.helper(helper, i), 24, -1, 0);
        }
        refused("a thirteenth helper", x, STATE, () -> x.addHelper());
        due("helpers", x.count(2), 12);
    }

    /** "There are at most 16 ...; practice, 0 to 9 ... (0, at first); ... strolls, at first" */
    private static void theVisitors() {
        FeteBoard x = new FeteBoard();
        for (int b = 0; b < 8; b++) {
            x.addBooth(1, 0, 0, 1);
        }
        for (int v = 0; v < 16; v++) {
            int visitor = v;
            due("number", x.come(v, 2 * v), v);
            factsOf("a new visitor", i -> x.visitor(visitor, i), v, 2 * v, 0, -1, 0, 0, 0, 0);
            for (int b = 0; b < 8; b++) {
                due("practice at first", x.practice(v, b), 0);
            }
        }
        refused("a seventeenth visitor", x, STATE, () -> x.come(0, 0));
        due("visitors", x.count(3), 16);
    }

    private static void theBoard() {
        boardIsEmptyAtFirst();
        samePointsStandBehind();
        fourthPlayOnAFullBoard();
        fullBoardOfFourBooths();
    }

    /** "It has at most 3 lines": none at first, then one for each play. */
    private static void boardIsEmptyAtFirst() {
        FeteBoard x = unmarkedGreenWithBooth(1, 60, 9, 1);
        x.come(9, 5);
        helpersAt(x, 0, 1);
        for (int plays = 0; plays <= 4; plays++) {
            int lines = Math.min(plays, 3);
            due("lines behind " + plays + " plays", x.count(9), lines);
            refused("the line behind them", x, INDEX, () -> x.board(lines, 0));
            x.pass(1);
        }
    }

    /** "A play comes on it ahead of each line with fewer points, behind all others" */
    private static void samePointsStandBehind() {
        FeteBoard x = unmarkedGreenWithBooth(1, 60, 9, 1);
        x.come(1, 5);
        x.come(1, 5);
        x.come(1, 6);
        helpersAt(x, 0, 1);
        x.pass(2);
        lineIs("first of the same points", x, 0, 0, 0, 5);
        lineIs("second of the same points", x, 1, 1, 0, 5);
        x.pass(1);
        lineIs("more points", x, 0, 2, 0, 6);
        lineIs("first of the same points, behind", x, 1, 0, 0, 5);
        lineIs("second of the same points, behind", x, 2, 1, 0, 5);
    }

    /** "what is behind the third line is rubbed out": fewer, the same, and more points than the third. */
    private static void fourthPlayOnAFullBoard() {
        int[][] fourths = {{6, 2, 7}, {7, 2, 7}, {8, 3, 8}};
        for (int[] fourth : fourths) {
            FeteBoard x = unmarkedGreenWithBooth(1, 60, 9, 1);
            x.come(1, 9);
            x.come(1, 8);
            x.come(1, 7);
            x.come(1, fourth[0]);
            helpersAt(x, 0, 1);
            x.pass(4);
            due("lines", x.count(9), 3);
            lineIs("first, with a fourth of " + fourth[0], x, 0, 0, 0, 9);
            lineIs("second, with a fourth of " + fourth[0], x, 1, 1, 0, 8);
            lineIs("third, with a fourth of " + fourth[0], x, 2, fourth[1], 0, fourth[2]);
        }
    }

    /** "each a visitor, a booth and points": whole lines are pushed down, and the third rubbed out. */
    private static void fullBoardOfFourBooths() {
        FeteBoard x = unmarkedGreen();
        for (int b = 0; b < 4; b++) {
            x.addBooth(1, 60, 9, 1);
            x.come(9, 5 + b);
            helpersAt(x, b, 1);
        }
        x.pass(1);
        due("lines of four booths", x.count(9), 3);
        lineIs("the last play, ahead of all", x, 0, 3, 3, 8);
        lineIs("pushed down once", x, 1, 2, 2, 7);
        lineIs("pushed down twice", x, 2, 1, 1, 6);
    }

    // ---- Terms, a round, 1: the dart

    /** "If it is the first one of an hour (the number by the remainder of 12 is 0): the dart." */
    private static void firstRoundOfAnHour() {
        FeteBoard x = new FeteBoard();
        int dart = 1;
        for (int round = 0; round < 40; round++) {
            due("dart ahead of round " + round, x.count(10), dart);
            x.pass(1);
            if (round == 0 || round == 12 || round == 24 || round == 36) {
                dart = (dart * 75 + 74) % 65537;
            }
            due("dart behind round " + round, x.count(10), dart);
        }
    }

    // ---- Terms, a round, 2: choosing

    private static void whoChooses() {
        whoStandsInAQueueStays();
        whoIsAtHomeStays();
        nobodyChooses();
    }

    /** "each visitor who strolls": one in a queue doesn't change to a better booth. */
    private static void whoStandsInAQueueStays() {
        FeteBoard x = unmarkedGreenWithBooth(1, 60, 9, 1);
        for (int v = 0; v < 4; v++) {
            x.come(9, 0);
        }
        helpersAt(x, 0, 1);
        x.pass(1);
        queueIs("three wait", x, 0, 1, 2, 3);
        x.addBooth(1, 60, 9, 1);
        helpersAt(x, 1, 1);
        x.pass(1);
        queueIs("two of them still wait", x, 0, 2, 3);
        due("the one who strolled chose the empty queue", x.practice(0, 1), 1);
    }

    /** "each visitor who strolls": one at home doesn't choose, not even a booth that costs nothing. */
    private static void whoIsAtHomeStays() {
        FeteBoard x = new FeteBoard();
        x.come(0, 0);
        x.pass(11);
        x.addBooth(1, 0, 9, 1);
        helpersAt(x, 0, 1);
        x.pass(2);
        due("it costs nothing", x.booth(0, 0), 0);
        due("still at home", x.visitor(0, 2), 2);
        due("no play", x.booth(0, 8), 0);
    }

    /** "each visitor who strolls": there may be none. */
    private static void nobodyChooses() {
        FeteBoard x = greenWithBooth(1, 0, 9, 1);
        helpersAt(x, 0, 1);
        due("won by nobody", x.pass(24), 0);
        factsOf("a booth without visitors", i -> x.booth(0, i), 0, 0, 9, 1, 0, 0, 1, 0, 0, 0);
    }

    private static void whichBoothIsChosen() {
        onlyOpenBooths();
        onlyBoothsWithAPrize();
        onlyBoothsThatOneCanPay();
        theShortestQueue();
        theMostPractice();
        theSmallestNumber();
    }

    /** "of the booths that are open": one helper short, just enough. */
    private static void onlyOpenBooths() {
        FeteBoard x = unmarkedGreenWithBooth(1, 60, 9, 2);
        x.come(9, 0);
        helpersAt(x, 0, 1);
        x.pass(1);
        due("one helper short", x.visitor(0, 2) + x.booth(0, 8), 0);
        helpersAt(x, 0, 1);
        x.pass(1);
        due("just enough", x.booth(0, 8), 1);
    }

    /** "have a prize": none, and one. */
    private static void onlyBoothsWithAPrize() {
        FeteBoard x = unmarkedGreenWithBooth(1, 0, 0, 1);
        x.come(9, 0);
        helpersAt(x, 0, 1);
        due("no prize", x.pass(1), 0);
        due("nobody chose it", x.booth(0, 8), 0);
        x.bring(0, 1);
        due("one prize", x.pass(1), 1);
        due("one play", x.booth(0, 8), 1);
        due("none again", x.pass(1), 0);
        due("still one play", x.booth(0, 8), 1);
    }

    /** "cost at most as many tokens as this one has": one too few, just as many, one more. */
    private static void onlyBoothsThatOneCanPay() {
        for (int cost = 2; cost <= 9; cost++) {
            for (int tokens = cost - 1; tokens <= cost + 1; tokens++) {
                FeteBoard x = unmarkedGreenWithBooth(cost, 60, 9, 1);
                x.come(tokens, 0);
                helpersAt(x, 0, 1);
                x.pass(1);
                String what = "cost " + cost + ", tokens " + tokens;
                due(what + ", plays", x.visitor(0, 6), tokens >= cost ? 1 : 0);
                due(what + ", left", x.visitor(0, 0), tokens >= cost ? tokens - cost : tokens);
            }
        }
    }

    /** "the one with the shortest queue": ahead of practice and of the number. */
    private static void theShortestQueue() {
        FeteBoard x = unmarkedGreen();
        x.addBooth(1, 60, 9, 1);
        x.come(9, 0);
        x.come(9, 0);
        helpersAt(x, 0, 1);
        x.pass(1);
        queueIs("one waits", x, 0, 1);
        x.addBooth(1, 60, 9, 1);
        helpersAt(x, 1, 1);
        x.pass(1);
        due("none is shorter than one", x.practice(0, 1), 1);
        due("despite the practice here", x.practice(0, 0), 1);
    }

    /** "of several the one where this one has the most practice" */
    private static void theMostPractice() {
        FeteBoard x = unmarkedGreen();
        x.addBooth(1, 60, 9, 1);
        x.addBooth(1, 60, 9, 1);
        x.come(9, 0);
        helpersAt(x, 1, 1);
        x.pass(1);
        helpersAt(x, 0, 1);
        x.pass(1);
        due("1 is more than 0", x.practice(0, 1), 2);
        due("though its number is smaller", x.practice(0, 0), 0);
    }

    /** "of these the one with the smallest number": eight alike. */
    private static void theSmallestNumber() {
        FeteBoard x = unmarkedGreen();
        for (int b = 0; b < 8; b++) {
            x.addBooth(1, 60, 9, 1);
            x.come(1, 0);
        }
        x.come(1, 0);
        for (int b = 7; b >= 0; b--) {
            helpersAt(x, b, 1);
        }
        x.pass(1);
        for (int b = 0; b < 8; b++) {
            due("visitor " + b + " at booth " + b, x.practice(b, b), 1);
        }
        queueIs("the ninth, when all are alike again", x, 0, 8);
    }

    private static void whoGoesHome() {
        onlyOneWithoutAToken();
        notFromAQueue();
        notIfABoothCostsNothing();
    }

    /** "Without such a booth, one who has no token goes home." */
    private static void onlyOneWithoutAToken() {
        FeteBoard x = new FeteBoard();
        x.come(0, 30);
        x.come(1, 0);
        x.pass(1);
        due("no token", x.visitor(0, 2), 2);
        due("one token", x.visitor(1, 2), 0);
        due("gone home", x.count(6), 1);
    }

    /** One in a queue doesn't choose, and so stays without a token until it's this one's turn. */
    private static void notFromAQueue() {
        FeteBoard x = greenWithBooth(1, 60, 9, 1);
        x.pass(11);
        x.come(50, 0);
        x.come(0, 0);
        x.come(0, 0);
        helpersAt(x, 0, 1);
        x.pass(1);
        queueIs("two wait without a token", x, 0, 1, 2);
        x.addBooth(9, 60, 9, 3);
        x.setDart(1);
        x.pass(1);
        due("149 % 2: the mark has gone elsewhere", x.booth(0, 6), 0);
        factsOf("at the front, strolls", i -> x.visitor(1, i), 0, 0, 0, -1, 0, 0, 0, 0);
        factsOf("still waits", i -> x.visitor(2, i), 0, 0, 1, 0, 0, 0, 0, 0);
        x.pass(1);
        due("found no booth: home", x.visitor(1, 2), 2);
        due("at the front, strolls", x.visitor(2, 2), 0);
        x.pass(1);
        due("found none either: home", x.visitor(2, 2), 2);
        due("gone home", x.count(6), 2);
    }

    /** A marked booth of cost 1 costs at most the 0 tokens that one has. */
    private static void notIfABoothCostsNothing() {
        FeteBoard x = greenWithBooth(1, 0, 1, 1);
        x.come(0, 0);
        helpersAt(x, 0, 1);
        due("wins for nothing", x.pass(1), 1);
        due("strolls", x.visitor(0, 2), 0);
        x.pass(1);
        due("no prize is left: home", x.visitor(0, 2), 2);
    }

    // ---- Terms, a round, 3: playing

    private static void whoPlays() {
        asManyTimesAsHelpers();
        notAtAClosedBooth();
        onlyOneWhoCanPay();
        oneWhoCantPayIsATime();
    }

    /** "as many times as helpers work there, as long as its queue has somebody" */
    private static void asManyTimesAsHelpers() {
        for (int helpers = 1; helpers <= 12; helpers++) {
            for (int visitors = 0; visitors <= 16; visitors++) {
                FeteBoard x = unmarkedGreenWithBooth(1, 60, 9, 1);
                for (int v = 0; v < visitors; v++) {
                    x.come(9, 0);
                }
                helpersAt(x, 0, helpers);
                x.pass(1);
                int plays = Math.min(helpers, visitors);
                int waiting = visitors - plays;
                String what = helpers + " helpers, " + visitors + " visitors";
                due(what + ", plays", x.booth(0, 8), plays);
                due(what + ", waiting", x.booth(0, 7), waiting);
                due(what + ", in queues", x.count(5), waiting);
                refused(what + ", behind the queue", x, INDEX, () -> x.queue(0, waiting));
            }
        }
    }

    /** "each booth that is open": one helper short with a queue, which stays in the hour. */
    private static void notAtAClosedBooth() {
        FeteBoard x = unmarkedGreenWithBooth(1, 60, 9, 2);
        x.come(9, 0);
        x.come(9, 0);
        x.come(9, 0);
        helpersAt(x, 0, 2);
        x.pass(1);
        queueIs("the third waits", x, 0, 2);
        x.work(0, -1);
        x.pass(1);
        due("no play", x.booth(0, 8), 2);
        queueIs("the third still waits", x, 0, 2);
    }

    /** "If this one has as many tokens as it costs, they are paid": the mark goes, the cost is 1 more. */
    private static void onlyOneWhoCanPay() {
        for (int tokens = 1; tokens <= 3; tokens++) {
            FeteBoard x = frontOfTheQueueWhenTheMarkGoes(tokens);
            String what = "cost 2, tokens " + tokens + " at the front";
            int plays = tokens >= 2 ? 1 : 0;
            due(what + ", plays", x.visitor(1, 6), plays);
            due(what + ", left", x.visitor(1, 0), tokens - 2 * plays);
            due(what + ", practice", x.practice(1, 0), plays);
            due(what + ", lines", x.count(9), plays);
            due(what + ", strolls", x.visitor(1, 2), 0);
            due(what + ", paid in all", x.booth(0, 9), 1 + 2 * plays);
        }
    }

    /** Visitor 1 came to the queue at a cost of 1; in the round that just went by it was 2. */
    private static FeteBoard frontOfTheQueueWhenTheMarkGoes(int tokens) {
        FeteBoard x = greenWithBooth(2, 60, 9, 1);
        x.come(50, 0);
        x.come(tokens, 7);
        x.addHelper();
        x.pass(11);
        x.work(0, 0);
        x.pass(1);
        x.addBooth(9, 60, 9, 3);
        x.setDart(1);
        x.pass(1);
        return x;
    }

    /** "as many times as helpers work there": one who can't pay is one of these times. */
    private static void oneWhoCantPayIsATime() {
        FeteBoard x = frontOfTheQueueWhenTheMarkGoes(1);
        queueIs("the next one still waits", x, 0, 0);
        due("one play, of the hour before", x.booth(0, 8), 1);
    }

    private static void whatAPlayBrings() {
        leastPlay();
        mostPlay();
        practiceEndsAtNine();
        goalIsJustReached();
        lastPrizeOfTwoPlays();
        noPrizeForOneWhoWaited();
    }

    /** "the points are the skill, 3 * the practice there, and 5 for each helper more": all 0. */
    private static void leastPlay() {
        FeteBoard x = unmarkedGreenWithBooth(1, 0, 1, 3);
        x.come(1, 0);
        helpersAt(x, 0, 3);
        due("a goal of 0 is reached with 0", x.pass(1), 1);
        lineIs("0 points come on the board", x, 0, 0, 0, 0);
        factsOf("who played", i -> x.visitor(0, i), 0, 0, 0, -1, 1, 0, 1, 0);
    }

    /** "... all this twice, if the booth is marked": skill 30, practice 9, 11 helpers more. */
    private static void mostPlay() {
        FeteBoard x = greenWithBooth(1, 60, 99, 1);
        x.come(200, 30);
        helpersAt(x, 0, 12);
        for (int play = 0; play < 11; play++) {
            due("won", x.pass(1), 1);
            int points = 2 * (30 + 3 * Math.min(play, 9) + 5 * 11);
            due("the most points", x.visitor(0, 7), points);
            lineIs("the first line", x, 0, 0, 0, play < 10 ? points : 224);
        }
        lineIs("the most that there can be", x, 0, 0, 0, 224);
        lineIs("the same behind it", x, 1, 0, 0, 224);
        lineIs("with practice 8", x, 2, 0, 0, 218);
    }

    /** "The practice there is 1 more (at most 9)." */
    private static void practiceEndsAtNine() {
        FeteBoard x = unmarkedGreenWithBooth(1, 60, 9, 1);
        x.come(99, 0);
        helpersAt(x, 0, 1);
        x.pass(8);
        due("behind 8 plays", x.practice(0, 0), 8);
        x.pass(1);
        due("behind 9 plays", x.practice(0, 0), 9);
        x.pass(1);
        due("behind 10 plays", x.practice(0, 0), 9);
        due("points of the tenth", x.visitor(0, 7), 27);
    }

    /** "If the points are at least the goal, and there is a prize, this one has it." */
    private static void goalIsJustReached() {
        for (int goal = 0; goal <= 60; goal++) {
            for (int points = Math.max(0, goal - 1); points <= goal + 1 && points <= 60; points++) {
                FeteBoard x = greenWithBooth(1, goal, 1, 1);
                x.come(9, points / 2);
                helpersAt(x, 0, 1);
                int twice = points / 2 * 2;
                due("goal " + goal + ", points " + twice, x.pass(1), twice >= goal ? 1 : 0);
                due("prizes left", x.booth(0, 2), twice >= goal ? 0 : 1);
            }
        }
        FeteBoard x = unmarkedGreenWithBooth(1, 15, 9, 1);
        x.come(9, 14);
        x.come(9, 15);
        x.come(9, 16);
        helpersAt(x, 0, 1);
        due("one point short", x.pass(1), 0);
        due("just the goal", x.pass(1), 1);
        due("one point more", x.pass(1), 1);
    }

    /** "and there is a prize": the second play of the same round pays, and has none. */
    private static void lastPrizeOfTwoPlays() {
        FeteBoard x = unmarkedGreenWithBooth(2, 0, 1, 1);
        x.come(9, 0);
        x.come(9, 0);
        helpersAt(x, 0, 2);
        due("one prize", x.pass(1), 1);
        due("the first has it", x.visitor(0, 4), 1);
        factsOf("the second played", i -> x.visitor(1, i), 7, 0, 0, -1, 0, 0, 1, 5);
        factsOf("the booth", i -> x.booth(0, i), 2, 0, 0, 1, 2, 1, 0, 0, 2, 4);
    }

    /** "and there is a prize": with the last one gone who waits still plays and pays, but nobody comes. */
    private static void noPrizeForOneWhoWaited() {
        FeteBoard x = unmarkedGreenWithBooth(2, 0, 1, 1);
        x.come(9, 0);
        x.come(9, 0);
        helpersAt(x, 0, 1);
        due("the last prize", x.pass(1), 1);
        due("no prize", x.pass(1), 0);
        factsOf("waited, and played", i -> x.visitor(1, i), 7, 0, 0, -1, 0, 0, 1, 0);
        due("practice without a prize", x.practice(1, 0), 1);
        due("on the board without a prize", x.count(9), 2);
        x.pass(1);
        factsOf("the booth", i -> x.booth(0, i), 2, 0, 0, 1, 1, 1, 0, 0, 2, 4);
    }

    // ---- Terms, a round, 4: helpers

    private static void helpersInARound() {
        noStrengthLeft();
        atMostTwentyFour();
        tiredAtOnceAgain();
        tiredAtAClosedBooth();
    }

    /** "with none left this one rests. One who rests (also one who just began) has 2 more" */
    private static void noStrengthLeft() {
        FeteBoard x = greenWithBooth(1, 0, 0, 1);
        helpersAt(x, 0, 1);
        for (int rounds = 1; rounds <= 23; rounds++) {
            x.pass(1);
            factsOf("in work for " + rounds, i -> x.helper(0, i), 24 - rounds, 0, rounds);
        }
        x.pass(1);
        factsOf("with none left", i -> x.helper(0, i), 2, -1, 24);
        due("nobody works there", x.booth(0, 4), 0);
        due("closed", x.booth(0, 5), 0);
    }

    /** "has 2 more (at most 24)": from 24, from 23, from 22. */
    private static void atMostTwentyFour() {
        for (int rounds = 0; rounds <= 2; rounds++) {
            FeteBoard x = greenWithBooth(1, 0, 0, 1);
            helpersAt(x, 0, 1);
            if (rounds > 0) {
                x.pass(rounds);
            }
            x.work(0, -1);
            due("ahead of the rest", x.helper(0, 0), 24 - rounds);
            x.pass(1);
            due("from " + (24 - rounds), x.helper(0, 0), 24);
            x.pass(200);
            due("never more", x.helper(0, 0), 24);
        }
    }

    /** One sent back with 2 works for two rounds. */
    private static void tiredAtOnceAgain() {
        FeteBoard x = greenWithBooth(1, 0, 0, 1);
        helpersAt(x, 0, 1);
        x.pass(24);
        x.work(0, 0);
        due("behind two rounds", x.closes(0), 2);
        x.pass(1);
        factsOf("one left", i -> x.helper(0, i), 1, 0, 25);
        x.pass(1);
        factsOf("none left again", i -> x.helper(0, i), 2, -1, 26);
    }

    /** "one who works has 1 less strength": also with too few others for the booth to open. */
    private static void tiredAtAClosedBooth() {
        FeteBoard x = greenWithBooth(1, 0, 9, 3);
        helpersAt(x, 0, 2);
        x.pass(23);
        factsOf("one strength left at a closed booth", i -> x.helper(1, i), 1, 0, 23);
        x.pass(1);
        factsOf("none left at a closed booth", i -> x.helper(1, i), 2, -1, 24);
    }

    // ---- Terms, a round, 5 and 6: the hour's end

    private static void lastRoundOfAnHour() {
        boardIsReadInTheLastRoundAlone();
        boardsOfAnyLength();
        firstLineOfOneAtHome();
        threeLinesOfOne();
        closedQueuesAreLeft();
        openQueuesStay();
        theHourOfTheLastStrength();
    }

    /** "If the round is the last one of an hour: ...; the board is empty then." */
    private static void boardIsReadInTheLastRoundAlone() {
        FeteBoard x = unmarkedGreenWithBooth(1, 60, 9, 1);
        x.come(1, 5);
        helpersAt(x, 0, 1);
        for (int round = 1; round < 30; round++) {
            due("round", x.count(0), round);
            if (round == 2) {
                x.work(0, -1);
            }
            x.pass(1);
            due("marks behind round " + round, x.visitor(0, 5), round < 11 ? 0 : 3);
            due("tokens behind round " + round, x.visitor(0, 0), round < 11 ? 0 : 5);
            due("lines behind round " + round, x.count(9), round < 11 ? 1 : 0);
        }
    }

    /** "the visitors of the lines of the board get 3, 2 and 1 marks": of none, 1, 2, 3 and 4 plays. */
    private static void boardsOfAnyLength() {
        for (int plays = 0; plays <= 4; plays++) {
            FeteBoard x = unmarkedGreenWithBooth(1, 60, 9, 1);
            for (int v = 0; v < 4; v++) {
                x.come(1, 9 - v);
            }
            helpersAt(x, 0, 1);
            if (plays > 0) {
                x.pass(plays);
            }
            x.work(0, -1);
            x.pass(11 - plays);
            int[] marks = {3, 2, 1, 0};
            for (int v = 0; v < 4; v++) {
                String what = plays + " plays, visitor " + v;
                int tokens = v == 0 && plays > 0 ? 5 : v < plays ? 0 : 1;
                due(what + ", marks", x.visitor(v, 5), v < plays ? marks[v] : 0);
                due(what + ", tokens", x.visitor(v, 0), tokens);
            }
        }
    }

    /** "and the one of the first line 5 tokens": one at home has them there, and stays. */
    private static void firstLineOfOneAtHome() {
        FeteBoard x = unmarkedGreenWithBooth(1, 60, 9, 1);
        x.come(1, 5);
        helpersAt(x, 0, 1);
        x.pass(2);
        due("gone home with the first line", x.visitor(0, 2), 2);
        x.pass(9);
        factsOf("at home behind the hour", i -> x.visitor(0, i), 5, 5, 2, -1, 0, 3, 1, 5);
        x.pass(12);
        due("stays at home", x.visitor(0, 2), 2);
        due("all that this one has", x.visitor(0, 0), 5);
    }

    /** "the visitors of the lines of the board get 3, 2 and 1 marks": all of them for one alone. */
    private static void threeLinesOfOne() {
        FeteBoard x = unmarkedGreenWithBooth(1, 60, 9, 1);
        x.come(20, 5);
        helpersAt(x, 0, 1);
        x.pass(11);
        due("6 marks", x.visitor(0, 5), 6);
        due("5 tokens once", x.visitor(0, 0), 20 - 11 + 5);
    }

    /** "All queues of booths that are not open are left: those who stood there stroll." */
    private static void closedQueuesAreLeft() {
        FeteBoard x = unmarkedGreenWithBooth(1, 60, 9, 2);
        for (int v = 0; v < 16; v++) {
            x.come(9, 0);
        }
        helpersAt(x, 0, 2);
        x.pass(1);
        x.work(0, -1);
        x.pass(9);
        due("14 wait ahead of the last round", x.booth(0, 7), 14);
        x.pass(1);
        due("the round", x.count(0), 12);
        queueIs("one helper short: left", x, 0);
        due("in queues", x.count(5), 0);
        for (int v = 0; v < 16; v++) {
            due("strolls", x.visitor(v, 2), 0);
            due("stands in none", x.visitor(v, 3), -1);
        }
    }

    /** "All queues of booths that are not open": just enough helpers keep theirs. */
    private static void openQueuesStay() {
        FeteBoard x = unmarkedGreenWithBooth(1, 60, 9, 2);
        for (int v = 0; v < 5; v++) {
            x.come(99, 0);
        }
        helpersAt(x, 0, 2);
        x.pass(11);
        due("the round", x.count(0), 12);
        due("just enough helpers: three wait", x.booth(0, 7), 3);
    }

    /** The helpers' strength goes ahead of the hour's end: who tires in its last round has closed the booth. */
    private static void theHourOfTheLastStrength() {
        for (int late = 0; late <= 1; late++) {
            FeteBoard x = greenWithBooth(1, 60, 9, 1);
            x.come(200, 0);
            x.come(200, 0);
            x.addHelper();
            if (late > 0) {
                x.pass(late);
            }
            x.work(0, 0);
            x.pass(24 - late);
            due("the round", x.count(0), 24);
            due("open", x.booth(0, 5), late);
            due("waiting", x.booth(0, 7), late);
        }
    }

    // ---- promises 2 to 9: "Throws ..."

    private static void refusals() {
        addBoothRefuses();
        addBoothTakesTheEdges();
        comeRefuses();
        comeTakesTheEdges();
        setDartRefuses();
        workRefuses();
        bringRefuses();
        bringFillsUpToNinetyNine();
        sellRefuses();
        sellBringsBackFromHome();
        sellInAQueue();
        leaveRefuses();
        leaveOfOneInNoQueue();
        whichExceptionIsThrown();
    }

    /** "if cost is not 1 to 9, goal is not 0 to 60, prizes is not 0 to 99, or needs is not 1 to 3" */
    private static void addBoothRefuses() {
        FeteBoard x = new FeteBoard();
        refusedOutside("addBooth: cost", x, ARGUMENT, 1, 9, n -> x.addBooth(n, 0, 0, 1));
        refusedOutside("addBooth: goal", x, ARGUMENT, 0, 60, n -> x.addBooth(1, n, 0, 1));
        refusedOutside("addBooth: prizes", x, ARGUMENT, 0, 99, n -> x.addBooth(1, 0, n, 1));
        refusedOutside("addBooth: needs", x, ARGUMENT, 1, 3, n -> x.addBooth(1, 0, 0, n));
        due("addBooth: none is there", x.count(1), 0);
    }

    private static void addBoothTakesTheEdges() {
        int[] edges = {1, 0, 0, 1, 9, 60, 99, 3};
        for (int kind = 0; kind < 16; kind++) {
            FeteBoard x = new FeteBoard();
            int cost = edges[(kind & 1) * 4];
            int goal = edges[(kind >> 1 & 1) * 4 + 1];
            int prizes = edges[(kind >> 2 & 1) * 4 + 2];
            int needs = edges[(kind >> 3 & 1) * 4 + 3];
            due("addBooth: the edges", x.addBooth(cost, goal, prizes, needs), 0);
            factsOf("addBooth: the edges", i -> x.booth(0, i), cost, goal, prizes, needs, 0, 0, 0, 0, 0, 0);
        }
    }

    /** "if tokens is not 0 to 200, or skill is not 0 to 30" */
    private static void comeRefuses() {
        FeteBoard x = new FeteBoard();
        refusedOutside("come: tokens", x, ARGUMENT, 0, 200, n -> x.come(n, 0));
        refusedOutside("come: skill", x, ARGUMENT, 0, 30, n -> x.come(0, n));
        due("come: nobody is there", x.count(3), 0);
    }

    private static void comeTakesTheEdges() {
        FeteBoard x = new FeteBoard();
        due("come(0, 0)", x.come(0, 0), 0);
        due("come(0, 30)", x.come(0, 30), 1);
        due("come(200, 0)", x.come(200, 0), 2);
        due("come(200, 30)", x.come(200, 30), 3);
        for (int v = 0; v < 4; v++) {
            due("come: tokens", x.visitor(v, 0), v < 2 ? 0 : 200);
            due("come: skill", x.visitor(v, 1), v % 2 == 0 ? 0 : 30);
        }
    }

    /** "if dart is not 1 to 65536" */
    private static void setDartRefuses() {
        FeteBoard x = new FeteBoard();
        refusedOutside("setDart", x, ARGUMENT, 1, 65536, n -> x.setDart(n));
        due("setDart: the most", x.setDart(65536), 1);
        due("setDart: the least", x.setDart(1), 65536);
        due("setDart: it is", x.count(10), 1);
    }

    /** "if there is no such helper, or no such booth, but -1" */
    private static void workRefuses() {
        FeteBoard x = new FeteBoard();
        refused("work: no helper, resting", x, INDEX, () -> x.work(0, -1));
        x.addHelper();
        refused("work: no booth", x, INDEX, () -> x.work(0, 0));
        due("work: resting without booths", x.work(0, -1), -1);
        for (int b = 0; b < 8; b++) {
            int booths = b;
            refusedOutside("work: booth", x, INDEX, -1, booths - 1, n -> x.work(0, n));
            x.addBooth(1, 0, 0, 1);
            due("work: the last booth", x.work(0, b), b - 1);
        }
        for (int h = 1; h <= 12; h++) {
            int helpers = h;
            refusedOutside("work: helper", x, INDEX, 0, helpers - 1, n -> x.work(n, 0));
            due("work: the last helper", x.work(h - 1, -1), h == 1 ? 7 : -1);
            if (h < 12) {
                x.addHelper();
            }
        }
    }

    /** "if there is no such booth"; "if prizes is not 1 to 99" */
    private static void bringRefuses() {
        FeteBoard x = new FeteBoard();
        refused("bring: no booth", x, INDEX, () -> x.bring(0, 1));
        for (int b = 0; b < 8; b++) {
            x.addBooth(1, 0, 0, 1);
            int last = b;
            refusedOutside("bring: booth", x, INDEX, 0, last, n -> x.bring(n, 1));
            refusedOutside("bring: prizes", x, ARGUMENT, 1, 99, n -> x.bring(last, n));
        }
        due("bring: none came", x.count(7), 0);
    }

    /** "if there would be more than 99" */
    private static void bringFillsUpToNinetyNine() {
        for (int there = 0; there <= 99; there++) {
            FeteBoard x = greenWithBooth(1, 0, there, 1);
            int room = 99 - there;
            if (room < 99) {
                refused("bring: one more than room for " + room, x, STATE, () -> x.bring(0, room + 1));
            }
            if (room > 0) {
                due("bring: all that has room", x.bring(0, room), 99);
            }
            refused("bring: to a full booth", x, STATE, () -> x.bring(0, 1));
            due("bring: full", x.booth(0, 2), 99);
        }
    }

    /** "if there is no such visitor"; "if tokens is not 1 to 200" */
    private static void sellRefuses() {
        FeteBoard x = new FeteBoard();
        refused("sell: nobody", x, INDEX, () -> x.sell(0, 1));
        for (int v = 0; v < 16; v++) {
            x.come(0, 0);
            int last = v;
            refusedOutside("sell: visitor", x, INDEX, 0, last, n -> x.sell(n, 1));
            refusedOutside("sell: tokens", x, ARGUMENT, 1, 200, n -> x.sell(last, n));
            due("sell: the least", x.sell(v, 1), 1);
            due("sell: the most", x.sell(v, 200), 201);
        }
    }

    /** "one who has gone home strolls again": the least that's sold is enough; a refused sale isn't. */
    private static void sellBringsBackFromHome() {
        FeteBoard x = new FeteBoard();
        x.come(0, 0);
        x.pass(1);
        refused("sell: 0 to one at home", x, ARGUMENT, () -> x.sell(0, 0));
        refused("sell: 201 to one at home", x, ARGUMENT, () -> x.sell(0, 201));
        due("sell: still at home", x.visitor(0, 2), 2);
        due("sell: 1 to one at home", x.sell(0, 1), 1);
        due("sell: strolls", x.visitor(0, 2), 0);
        x.pass(1);
        due("sell: strolls on, with a token", x.visitor(0, 2), 0);
    }

    /** "one who has gone home strolls again": one in a queue stays there. */
    private static void sellInAQueue() {
        FeteBoard x = unmarkedGreenWithBooth(1, 60, 9, 1);
        x.come(9, 0);
        x.come(9, 0);
        x.come(9, 0);
        helpersAt(x, 0, 1);
        x.pass(1);
        due("sell: in a queue", x.sell(1, 200), 209);
        queueIs("sell: still there", x, 0, 1, 2);
        due("sell: in a queue still", x.visitor(1, 2), 1);
    }

    /** "if there is no such visitor" */
    private static void leaveRefuses() {
        FeteBoard x = new FeteBoard();
        refused("leave: nobody", x, INDEX, () -> x.leave(0));
        for (int v = 0; v < 16; v++) {
            x.come(9, 0);
            int last = v;
            refusedOutside("leave: visitor", x, INDEX, 0, last, n -> x.leave(n));
            due("leave: the last visitor strolls", x.leave(v), -1);
        }
    }

    /** "Returns the booth, -1 if this one stands in none." */
    private static void leaveOfOneInNoQueue() {
        FeteBoard x = unmarkedGreenWithBooth(1, 60, 9, 1);
        x.come(9, 0);
        x.come(9, 0);
        x.come(0, 0);
        helpersAt(x, 0, 1);
        x.pass(1);
        long before = x.digest();
        due("leave: one who strolls", x.leave(0), -1);
        due("leave: one at home", x.leave(2), -1);
        due("leave: nothing is changed", x.digest(), before);
        due("leave: the only one of a queue", x.leave(1), 0);
        queueIs("leave: empty", x, 0);
        due("leave: once more", x.leave(1), -1);
        fullQueueIsLeft();
    }

    private static void fullQueueIsLeft() {
        FeteBoard x = unmarkedGreenWithBooth(1, 60, 9, 1);
        for (int v = 0; v < 16; v++) {
            x.come(9, 0);
        }
        helpersAt(x, 0, 1);
        x.pass(1);
        due("leave: the last of 15", x.leave(15), 0);
        due("leave: the first of 14", x.leave(1), 0);
        due("leave: from the middle of 13", x.leave(8), 0);
        queueIs("leave: 12 are left", x, 0, 2, 3, 4, 5, 6, 7, 9, 10, 11, 12, 13, 14);
    }

    /** "If several exceptions apply, the one that is named first is thrown." */
    private static void whichExceptionIsThrown() {
        FeteBoard x = fullGreen();
        refused("addBooth: full and wrong", x, ARGUMENT, () -> x.addBooth(0, 0, 0, 1));
        refused("addBooth: full", x, STATE, () -> x.addBooth(1, 0, 0, 1));
        refused("come: full and wrong", x, ARGUMENT, () -> x.come(0, 31));
        refused("come: full", x, STATE, () -> x.come(0, 30));
        refused("bring: no booth and wrong", x, INDEX, () -> x.bring(8, 100));
        refused("bring: wrong and too many", x, ARGUMENT, () -> x.bring(7, 100));
        refused("bring: too many", x, STATE, () -> x.bring(7, 99));
        refused("sell: nobody and wrong", x, INDEX, () -> x.sell(16, 0));
        refused("foresee: nobody and wrong", x, INDEX, () -> x.foresee(16, 0, 0));
        refused("foresee: no fact and wrong", x, INDEX, () -> x.foresee(15, 101, 3));
        refused("foresee: wrong", x, ARGUMENT, () -> x.foresee(15, 101, 2));
        refused("advise: no helper and wrong", x, INDEX, () -> x.advise(12, 61));
        refused("advise: wrong", x, ARGUMENT, () -> x.advise(11, 61));
    }

    // ---- promises 10 to 15: what is there

    private static void whatIsThere() {
        nothingIsThere();
        boothAndQueueRefuse();
        helperRefuses();
        visitorAndPracticeRefuse();
        boardRefuses();
        resultsOfOneWithoutAPlay();
    }

    private static void nothingIsThere() {
        FeteBoard x = new FeteBoard();
        for (int n = -1; n <= 1; n++) {
            int number = n;
            refused("booth of none", x, INDEX, () -> x.booth(number, 0));
            refused("queue of no booth", x, INDEX, () -> x.queue(number, 0));
            refused("helper of none", x, INDEX, () -> x.helper(number, 0));
            refused("visitor of none", x, INDEX, () -> x.visitor(number, 0));
            refused("practice of none", x, INDEX, () -> x.practice(number, number));
            refused("board without lines", x, INDEX, () -> x.board(number, 0));
            refused("foresee of none", x, INDEX, () -> x.foresee(number, 1, 0));
            refused("closes of none", x, INDEX, () -> x.closes(number));
            refused("advise of none", x, INDEX, () -> x.advise(number, 1));
        }
    }

    /** "if there is no such booth, or what is not 0 to 9"; "if there is no such booth or place" */
    private static void boothAndQueueRefuse() {
        FeteBoard x = new FeteBoard();
        for (int b = 0; b < 8; b++) {
            x.addBooth(1, 60, 9, 1);
            int last = b;
            refusedOutside("booth", x, INDEX, 0, last, n -> x.booth(n, 9));
            refusedOutside("booth: what", x, INDEX, 0, 9, n -> x.booth(last, n));
            refusedOutside("queue: booth", x, INDEX, 0, last, n -> x.queue(n, 0));
            refusedOutside("queue: place in an empty one", x, INDEX, 0, -1, n -> x.queue(last, n));
        }
        x.addHelper();
        x.work(0, 7);
        for (int v = 0; v < 16; v++) {
            x.come(99, 0);
        }
        x.pass(1);
        due("queue: 15 wait", x.booth(7, 7), 15);
        due("queue: the first place", x.queue(7, 0), 1);
        due("queue: the last place", x.queue(7, 14), 15);
        refusedOutside("queue: place", x, INDEX, 0, 14, n -> x.queue(7, n));
    }

    /** "if there is no such helper, or what is not 0 to 2" */
    private static void helperRefuses() {
        FeteBoard x = new FeteBoard();
        for (int h = 0; h < 12; h++) {
            x.addHelper();
            int last = h;
            refusedOutside("helper", x, INDEX, 0, last, n -> x.helper(n, 2));
            refusedOutside("helper: what", x, INDEX, 0, 2, n -> x.helper(last, n));
        }
    }

    /** "if there is no such visitor, or what is not 0 to 7"; "if there is no such visitor or booth" */
    private static void visitorAndPracticeRefuse() {
        FeteBoard x = new FeteBoard();
        FeteBoard y = new FeteBoard();
        for (int v = 0; v < 16; v++) {
            x.come(0, 0);
            y.come(0, 0);
            int last = v;
            refusedOutside("visitor", x, INDEX, 0, last, n -> x.visitor(n, 7));
            refusedOutside("visitor: what", x, INDEX, 0, 7, n -> x.visitor(last, n));
        }
        refused("practice without booths", y, INDEX, () -> y.practice(0, 0));
        for (int b = 0; b < 8; b++) {
            y.addBooth(1, 0, 0, 1);
            int last = b;
            refusedOutside("practice: visitor", y, INDEX, 0, 15, n -> y.practice(n, last));
            refusedOutside("practice: booth", y, INDEX, 0, last, n -> y.practice(15, n));
        }
    }

    /** "if there is no such line, or what is not 0 to 2" */
    private static void boardRefuses() {
        FeteBoard x = unmarkedGreenWithBooth(1, 60, 9, 1);
        x.come(9, 0);
        helpersAt(x, 0, 1);
        refused("board: no line", x, INDEX, () -> x.board(0, 0));
        for (int lines = 1; lines <= 3; lines++) {
            x.pass(1);
            int last = lines - 1;
            refusedOutside("board: line", x, INDEX, 0, last, n -> x.board(n, 2));
            refusedOutside("board: what", x, INDEX, 0, 2, n -> x.board(last, n));
        }
        x.pass(8);
        due("board: the hour is over", x.count(0), 12);
        refused("board: rubbed out", x, INDEX, () -> x.board(0, 0));
    }

    /** "3 the booth of this queue, -1 for none"; "7 the most points of a play, 0 without one" */
    private static void resultsOfOneWithoutAPlay() {
        FeteBoard x = unmarkedGreenWithBooth(1, 60, 9, 1);
        x.come(9, 30);
        x.come(9, 30);
        x.come(0, 30);
        helpersAt(x, 0, 1);
        x.pass(1);
        factsOf("played, strolls", i -> x.visitor(0, i), 8, 30, 0, -1, 0, 0, 1, 30);
        factsOf("waits without a play", i -> x.visitor(1, i), 9, 30, 1, 0, 0, 0, 0, 0);
        factsOf("at home without a play", i -> x.visitor(2, i), 0, 30, 2, -1, 0, 0, 0, 0);
    }

    // ---- promises 16 and 17: rounds

    private static void roundsAndCounts() {
        passRefuses();
        passTakesTheEdges();
        countRefuses();
        countsOfAFullGreen();
    }

    /** "if rounds is not 1 to 200" */
    private static void passRefuses() {
        FeteBoard x = fullGreen();
        refusedOutside("pass", x, ARGUMENT, 1, 200, n -> x.pass(n));
        due("pass: no round went by", x.count(0), 0);
    }

    private static void passTakesTheEdges() {
        FeteBoard atOnce = fullGreen();
        FeteBoard oneByOne = fullGreen();
        int won = 0;
        for (int i = 0; i < 200; i++) {
            won += oneByOne.pass(1);
        }
        due("pass(200)", atOnce.pass(200), won);
        due("pass: the same then", atOnce.digest(), oneByOne.digest());
        due("pass: the round", atOnce.count(0), 200);
    }

    /** "if what is not 0 to 10" */
    private static void countRefuses() {
        FeteBoard x = new FeteBoard();
        refusedOutside("count", x, INDEX, 0, 10, n -> x.count(n));
        factsOf("count of nothing", i -> x.count(i), 0, 0, 0, 0, 0, 0, 0, 0, 0, 0, 1);
    }

    private static void countsOfAFullGreen() {
        FeteBoard x = fullGreen();
        factsOf("count of all that there can be", i -> x.count(i), 0, 8, 12, 16, 4, 0, 0, 8 * 99, 0, 0, 1);
    }

    // ---- promises 18 to 20: looking ahead

    private static void lookingAhead() {
        foreseeRefuses();
        foreseeTakesTheEdges();
        foreseeIntoTheHoursEnd();
        closesRefuses();
        closesNowOrLater();
        closesAtTheFirstTime();
        closesOnABusyGreen();
        adviseRefuses();
        adviseTakesTheEdges();
        adviseOfNone();
        adviseOfSeveral();
    }

    /** "if there is no such visitor, or what is not 0 to 2"; "if rounds is not 1 to 100" */
    private static void foreseeRefuses() {
        FeteBoard x = fullGreen();
        refusedOutside("foresee: visitor", x, INDEX, 0, 15, n -> x.foresee(n, 1, 0));
        refusedOutside("foresee: what", x, INDEX, 0, 2, n -> x.foresee(15, 100, n));
        refusedOutside("foresee: rounds", x, ARGUMENT, 1, 100, n -> x.foresee(15, n, 2));
    }

    /** "Returns this, if nothing is done (nothing is changed)." */
    private static void foreseeTakesTheEdges() {
        for (int ahead = 0; ahead <= 25; ahead++) {
            foreseeIs(1, ahead);
            foreseeIs(100, ahead);
        }
    }

    private static void foreseeIs(int rounds, int ahead) {
        int[] facts = {4, 0, 5};
        FeteBoard x = busyGreen(ahead);
        FeteBoard then = busyGreen(ahead);
        then.pass(rounds);
        for (int v = 0; v < 16; v++) {
            for (int what = 0; what < 3; what++) {
                due("in round " + ahead + ", foresee(" + v + ", " + rounds + ", " + what + ")",
                        x.foresee(v, rounds, what), then.visitor(v, facts[what]));
            }
        }
        due("foresee: nothing is changed", x.digest(), busyGreen(ahead).digest());
    }

    /** In an hour's last round a single round brings the marks. */
    private static void foreseeIntoTheHoursEnd() {
        FeteBoard x = unmarkedGreenWithBooth(1, 60, 9, 1);
        x.come(1, 5);
        helpersAt(x, 0, 1);
        x.pass(9);
        due("foresee: ahead of the last round", x.foresee(0, 1, 2), 0);
        due("foresee: the last round", x.foresee(0, 2, 2), 3);
        x.pass(1);
        due("foresee: just the last round", x.foresee(0, 1, 2), 3);
        due("foresee: its tokens", x.foresee(0, 1, 1), 5);
        due("foresee: the board stays", x.count(9), 1);
    }

    /** "if there is no such booth" */
    private static void closesRefuses() {
        FeteBoard x = new FeteBoard();
        for (int b = 0; b < 8; b++) {
            x.addBooth(1, 0, 0, 1);
            int last = b;
            refusedOutside("closes", x, INDEX, 0, last, n -> x.closes(n));
            due("closes: the last booth", x.closes(b), 0);
        }
    }

    /** "0 if it is not now, at most 100": a helper's strength is told, down to 1. */
    private static void closesNowOrLater() {
        FeteBoard x = greenWithBooth(1, 0, 0, 1);
        due("closes: without helpers", x.closes(0), 0);
        helpersAt(x, 0, 1);
        for (int rounds = 24; rounds >= 1; rounds--) {
            due("closes: with strength " + rounds, x.closes(0), rounds);
            due("closes: open", x.booth(0, 5), 1);
            x.pass(1);
        }
        due("closes: tired out", x.closes(0), 0);
    }

    /** "behind how many rounds it is not open for the first time": when fewer are left than it needs. */
    private static void closesAtTheFirstTime() {
        for (int needs = 1; needs <= 3; needs++) {
            FeteBoard x = greenWithBooth(1, 0, 0, needs);
            helpersAt(x, 0, 1);
            x.pass(5);
            helpersAt(x, 0, 1);
            x.pass(5);
            due("closes: one short", x.closes(0), needs == 1 ? 19 : needs == 2 ? 14 : 0);
            helpersAt(x, 0, 1);
            int[] closes = {24, 19, 14};
            due("closes: needs " + needs, x.closes(0), closes[needs - 1]);
            long before = x.digest();
            x.closes(0);
            due("closes: nothing is changed", x.digest(), before);
        }
    }

    /** "if nothing is done": nobody sends a helper back, so that none is open behind 24 rounds. */
    private static void closesOnABusyGreen() {
        for (int b = 0; b < 8; b++) {
            FeteBoard x = busyGreen(7);
            int closes = x.closes(b);
            FeteBoard then = busyGreen(7);
            int rounds = 0;
            while (then.booth(b, 5) == 1 && rounds < 100) {
                then.pass(1);
                rounds++;
            }
            due("closes: booth " + b, closes, rounds);
            due("closes: nothing is changed", x.digest(), busyGreen(7).digest());
        }
    }

    /** "if there is no such helper"; "if rounds is not 1 to 60" */
    private static void adviseRefuses() {
        FeteBoard x = fullGreen();
        refusedOutside("advise: helper", x, INDEX, 0, 11, n -> x.advise(n, 1));
        refusedOutside("advise: rounds", x, ARGUMENT, 1, 60, n -> x.advise(11, n));
    }

    /** "so that the most prizes are won in so many rounds ... (nothing is changed)" */
    private static void adviseTakesTheEdges() {
        int[] edges = {1, 60};
        for (int rounds : edges) {
            for (int ahead = 0; ahead <= 15; ahead += 5) {
                FeteBoard x = busyGreen(ahead);
                for (int h = 0; h < 12; h++) {
                    due("in round " + ahead + ", advise(" + h + ", " + rounds + ")", x.advise(h, rounds),
                            triedOut(h, rounds, ahead));
                }
                due("advise: nothing is changed", x.digest(), busyGreen(ahead).digest());
            }
        }
    }

    /** What is to be advised, tried out on nine green ones alike. */
    private static int triedOut(int helper, int rounds, int ahead) {
        int best = -1;
        int most = -1;
        for (int booth = -1; booth < 8; booth++) {
            FeteBoard x = busyGreen(ahead);
            x.work(helper, booth);
            int won = x.pass(rounds);
            if (won > most) {
                most = won;
                best = booth;
            }
        }
        return best;
    }

    /** "but none, if these are not more than when this one rests": no booth, no prize, no more. */
    private static void adviseOfNone() {
        FeteBoard x = unmarkedGreen();
        x.addHelper();
        due("advise: no booth", x.advise(0, 60), -1);
        x.addBooth(1, 0, 0, 1);
        due("advise: no visitor", x.advise(0, 60), -1);
        x.come(99, 0);
        due("advise: no prize", x.advise(0, 60), -1);
        x.bring(0, 1);
        due("advise: one prize", x.advise(0, 1), 0);
        helpersAt(x, 0, 1);
        due("advise: the same without this one", x.advise(0, 1), -1);
        due("advise: the other one stays, so it is needed there", x.advise(1, 1), 0);
        x.work(0, 0);
        due("advise: as long as this one works", x.advise(1, 1), -1);
    }

    /** "of several the one with the smallest number": eight alike, and the last one alone better. */
    private static void adviseOfSeveral() {
        FeteBoard x = unmarkedGreen();
        x.addHelper();
        x.come(99, 0);
        for (int b = 0; b < 8; b++) {
            x.addBooth(1, 0, 3, 1);
        }
        due("advise: eight alike", x.advise(0, 3), 0);
        x.bring(7, 1);
        due("advise: still alike in 3 rounds", x.advise(0, 3), 0);
        due("advise: the last is better in 4", x.advise(0, 4), 7);
        x.bring(6, 9);
        due("advise: the smaller number of two", x.advise(0, 4), 6);
        due("advise: still works nowhere", x.helper(0, 1), -1);
    }

    // ---- promises 21 and 22

    private static void luckAndDigest() {
        luckOfNoPlays();
        luckOfAllAndNone();
        luckOfEightBooths();
        digestWrapsAround();
    }

    /** "0 if there were none" */
    private static void luckOfNoPlays() {
        FeteBoard x = new FeteBoard();
        dueLuck("luck of a new object", x.luck(), 0);
        x.addBooth(1, 0, 9, 1);
        x.come(9, 0);
        x.pass(20);
        dueLuck("luck without a play", x.luck(), 0);
    }

    /** "all prizes that were won, divided by all plays" */
    private static void luckOfAllAndNone() {
        FeteBoard x = greenWithBooth(1, 60, 9, 1);
        x.come(9, 0);
        helpersAt(x, 0, 1);
        x.pass(1);
        dueLuck("luck of one play without a prize", x.luck(), 0);
        FeteBoard y = greenWithBooth(1, 0, 9, 1);
        y.come(9, 0);
        helpersAt(y, 0, 1);
        y.pass(1);
        dueLuck("luck of one play with a prize", y.luck(), 1);
        y.pass(8);
        dueLuck("luck of nine", y.luck(), 1);
        y.addBooth(1, 60, 9, 1);
        y.work(0, 1);
        y.pass(1);
        dueLuck("luck of nine in ten", y.luck(), 9 / 10.0);
    }

    /** "divided by all plays": those of the first booth and of the eighth. */
    private static void luckOfEightBooths() {
        FeteBoard x = unmarkedGreen();
        for (int b = 0; b < 8; b++) {
            x.addBooth(1, b == 7 ? 0 : 60, 9, 1);
            x.come(1, 0);
            helpersAt(x, b, 1);
        }
        x.pass(1);
        dueLuck("luck of eight booths", x.luck(), 1 / 8.0);
    }

    /** "d becomes d * 31 + x, which wraps around as a 64-bit integer" */
    private static void digestWrapsAround() {
        FeteBoard empty = new FeteBoard();
        due("digest of nothing", empty.digest(), toldDigest(empty));
        due("digest of nothing, worked out", empty.digest(), -1855008660357196972L);
        due("digest of a full green", fullGreen().digest(), toldDigest(fullGreen()));
        for (int rounds = 1; rounds <= 60; rounds++) {
            FeteBoard x = fullGreen();
            x.pass(rounds);
            due("digest behind " + rounds + " rounds", x.digest(), toldDigest(x));
        }
    }

    /** In whole numbers without an end, cut to 64 bits at last. */
    private static long toldDigest(FeteBoard x) {
        int booths = x.count(1);
        int helpers = x.count(2);
        int visitors = x.count(3);
        int lines = x.count(9);
        BigInteger d = with(BigInteger.valueOf(653), 11, i -> x.count(i));
        for (int b = 0; b < booths; b++) {
            int booth = b;
            d = with(d, 10, i -> x.booth(booth, i));
            d = with(d, x.booth(b, 7), i -> x.queue(booth, i));
        }
        for (int h = 0; h < helpers; h++) {
            int helper = h;
            d = with(d, 3, i -> x.helper(helper, i));
        }
        for (int v = 0; v < visitors; v++) {
            int visitor = v;
            d = with(d, 8, i -> x.visitor(visitor, i));
            d = with(d, booths, i -> x.practice(visitor, i));
        }
        for (int l = 0; l < lines; l++) {
            int line = l;
            d = with(d, 3, i -> x.board(line, i));
        }
        return d.longValue();
    }

    private static BigInteger with(BigInteger digest, int facts, CallWith fact) {
        BigInteger d = digest;
        for (int i = 0; i < facts; i++) {
            d = d.multiply(BigInteger.valueOf(31)).add(BigInteger.valueOf(fact.make(i)));
        }
        return d;
    }
}
