/**
 * Each promise of the document: ordinary inputs, the edges that it names, and wrong inputs.
 * No object here is used for more than 512 calls, since what later ones answer is free.
 */
public final class PromisesTest {
    private static final Class<?> ARGUMENT = IllegalArgumentException.class;
    private static final Class<?> STATE = IllegalStateException.class;
    private static final Class<?> INDEX = IndexOutOfBoundsException.class;
    private static final int[] FAR_OFF = {Integer.MIN_VALUE, -65537, -2, 65537, Integer.MAX_VALUE};

    private static int wrong = 0;

    private interface Call {
        double make();
    }

    private static void due(String what, double got, double want) {
        if (got != want) {
            wrong++;
            System.out.println(what + " answered " + got + ", due is " + want);
        }
    }

    /** The very class is asked for, so that one of the machine's own below it doesn't pass. */
    private static void refused(String what, FeteBoard x, Class<?> want, Call call) {
        long before = x.digest();
        Class<?> got = null;
        try {
            call.make();
        } catch (RuntimeException e) {
            got = e.getClass();
        }
        if (got != want) {
            wrong++;
            System.out.println(what + " threw " + got + ", due is " + want);
        }
        if (x.digest() != before) {
            wrong++;
            System.out.println(what + " threw and changed something");
        }
    }

    private static void visitorIs(String what, FeteBoard x, int visitor, int... facts) {
        for (int i = 0; i < facts.length; i++) {
            due(what + ": visitor(" + visitor + ", " + i + ")", x.visitor(visitor, i), facts[i]);
        }
    }

    private static void boothIs(String what, FeteBoard x, int booth, int... facts) {
        for (int i = 0; i < facts.length; i++) {
            due(what + ": booth(" + booth + ", " + i + ")", x.booth(booth, i), facts[i]);
        }
    }

    private static void helperIs(String what, FeteBoard x, int helper, int... facts) {
        for (int i = 0; i < facts.length; i++) {
            due(what + ": helper(" + helper + ", " + i + ")", x.helper(helper, i), facts[i]);
        }
    }

    private static void lineIs(String what, FeteBoard x, int line, int... facts) {
        for (int i = 0; i < facts.length; i++) {
            due(what + ": board(" + line + ", " + i + ")", x.board(line, i), facts[i]);
        }
    }

    private static void queueIs(String what, FeteBoard x, int booth, int... visitors) {
        due(what + ": length", x.booth(booth, 7), visitors.length);
        for (int i = 0; i < visitors.length; i++) {
            due(what + ": queue(" + booth + ", " + i + ")", x.queue(booth, i), visitors[i]);
        }
        refused(what + ": behind the queue", x, INDEX, () -> x.queue(booth, visitors.length));
    }

    private static void helpersAt(FeteBoard x, int... booths) {
        for (int booth : booths) {
            x.work(x.addHelper(), booth);
        }
    }

    public static void main(String[] args) {
        newObject();
        addBooth();
        addHelper();
        come();
        setDart();
        markedBooth();
        work();
        bring();
        sell();
        leave();
        booth();
        queue();
        helper();
        visitor();
        practice();
        board();
        pass();
        choosing();
        playing();
        playsOnTheBoard();
        tiring();
        endOfAnHour();
        count();
        foresee();
        closes();
        advise();
        luck();
        digest();
        System.out.println(wrong == 0 ? "all promises hold" : wrong + " answers are not as due");
        if (wrong != 0) {
            System.exit(1);
        }
    }

    // ---- promise 1

    private static void newObject() {
        FeteBoard x = new FeteBoard();
        for (int what = 0; what <= 9; what++) {
            due("1: count(" + what + ")", x.count(what), 0);
        }
        due("1: count(10)", x.count(10), 1);
        refused("1: booth", x, INDEX, () -> x.booth(0, 0));
        refused("1: helper", x, INDEX, () -> x.helper(0, 0));
        refused("1: visitor", x, INDEX, () -> x.visitor(0, 0));
        refused("1: board", x, INDEX, () -> x.board(0, 0));
        due("1: an hour with nothing there", x.pass(12), 0);
        due("1: its round", x.count(0), 12);
        new FeteBoard().addBooth(1, 1, 1, 1);
        due("1: objects share nothing", x.count(1), 0);
    }

    // ---- promise 2

    private static void addBooth() {
        FeteBoard x = new FeteBoard();
        refused("2: cost 0", x, ARGUMENT, () -> x.addBooth(0, 0, 0, 1));
        refused("2: cost 10", x, ARGUMENT, () -> x.addBooth(10, 0, 0, 1));
        refused("2: goal -1", x, ARGUMENT, () -> x.addBooth(1, -1, 0, 1));
        refused("2: goal 61", x, ARGUMENT, () -> x.addBooth(1, 61, 0, 1));
        refused("2: prizes -1", x, ARGUMENT, () -> x.addBooth(1, 0, -1, 1));
        refused("2: prizes 100", x, ARGUMENT, () -> x.addBooth(1, 0, 100, 1));
        refused("2: needs 0", x, ARGUMENT, () -> x.addBooth(1, 0, 0, 0));
        refused("2: needs 4", x, ARGUMENT, () -> x.addBooth(1, 0, 0, 4));
        for (int far : FAR_OFF) {
            refused("2: cost far off", x, ARGUMENT, () -> x.addBooth(far, 0, 0, 1));
            refused("2: goal far off", x, ARGUMENT, () -> x.addBooth(1, far, 0, 1));
            refused("2: prizes far off", x, ARGUMENT, () -> x.addBooth(1, 0, far, 1));
            refused("2: needs far off", x, ARGUMENT, () -> x.addBooth(1, 0, 0, far));
        }
        due("2: the least", x.addBooth(1, 0, 0, 1), 0);
        boothIs("2: the least", x, 0, 1, 0, 0, 1, 0, 0, 0, 0, 0, 0);
        due("2: the most", x.addBooth(9, 60, 99, 3), 1);
        boothIs("2: the most", x, 1, 9, 60, 99, 3, 0, 0, 0, 0, 0, 0);
        for (int b = 2; b < 8; b++) {
            due("2: number", x.addBooth(1, 1, 1, 1), b);
        }
        refused("2: a ninth", x, STATE, () -> x.addBooth(1, 1, 1, 1));
        refused("2: a wrong ninth", x, ARGUMENT, () -> x.addBooth(1, 1, 1, 4));
        due("2: booths", x.count(1), 8);
    }

    // ---- promise 3

    private static void addHelper() {
        FeteBoard x = new FeteBoard();
        for (int h = 0; h < 12; h++) {
            due("3: number", x.addHelper(), h);
            helperIs("3: a new one", x, h, 24, -1, 0);
        }
        refused("3: a thirteenth", x, STATE, () -> x.addHelper());
        due("3: helpers", x.count(2), 12);
    }

    // ---- promise 4

    private static void come() {
        FeteBoard x = new FeteBoard();
        refused("4: tokens -1", x, ARGUMENT, () -> x.come(-1, 0));
        refused("4: tokens 201", x, ARGUMENT, () -> x.come(201, 0));
        refused("4: skill -1", x, ARGUMENT, () -> x.come(0, -1));
        refused("4: skill 31", x, ARGUMENT, () -> x.come(0, 31));
        for (int far : FAR_OFF) {
            refused("4: tokens far off", x, ARGUMENT, () -> x.come(far, 0));
            refused("4: skill far off", x, ARGUMENT, () -> x.come(0, far));
        }
        due("4: the least", x.come(0, 0), 0);
        visitorIs("4: the least", x, 0, 0, 0, 0, -1, 0, 0, 0, 0);
        due("4: the most", x.come(200, 30), 1);
        visitorIs("4: the most", x, 1, 200, 30, 0, -1, 0, 0, 0, 0);
        for (int v = 2; v < 16; v++) {
            due("4: number", x.come(1, 1), v);
        }
        refused("4: a seventeenth", x, STATE, () -> x.come(1, 1));
        refused("4: a wrong seventeenth", x, ARGUMENT, () -> x.come(1, 31));
        due("4: visitors", x.count(3), 16);
    }

    // ---- promise 5

    private static void setDart() {
        FeteBoard x = new FeteBoard();
        refused("5: dart 0", x, ARGUMENT, () -> x.setDart(0));
        refused("5: dart 65537", x, ARGUMENT, () -> x.setDart(65537));
        for (int far : FAR_OFF) {
            refused("5: dart far off", x, ARGUMENT, () -> x.setDart(far));
        }
        due("5: it was", x.setDart(65536), 1);
        due("5: it was", x.setDart(2), 65536);
        due("5: it is", x.count(10), 2);
        x.pass(1);
        due("5: the hour begins", x.count(10), 224);
        due("5: in the hour", x.setDart(3), 224);
        x.pass(11);
        due("5: till the next hour", x.count(10), 3);
        x.pass(1);
        due("5: the next hour", x.count(10), 299);
        x.setDart(65536);
        x.pass(12);
        due("5: this one stays", x.count(10), 65536);
        x.setDart(1747);
        x.pass(12);
        due("5: by the remainder", x.count(10), (1747 * 75 + 74) % 65537);
    }

    private static void markedBooth() {
        FeteBoard x = new FeteBoard();
        x.pass(1);
        for (int b = 0; b < 3; b++) {
            x.addBooth(b + 1, 0, 0, 1);
            due("5: none marked, set up behind the hour's beginning", x.booth(b, 6), 0);
        }
        x.setDart(2);
        due("5: the dart doesn't mark at once", x.booth(2, 6), 0);
        x.pass(11);
        due("5: not at the hour's end", x.booth(2, 6), 0);
        x.pass(1);
        for (int b = 0; b < 3; b++) {
            due("5: marked is 224 % 3", x.booth(b, 6), b == 2 ? 1 : 0);
            due("5: costs 1 less", x.booth(b, 0), b == 2 ? 2 : b + 1);
        }
        x.addBooth(9, 0, 0, 1);
        x.setDart(7);
        due("5: stays with a new booth", x.booth(2, 6), 1);
        due("5: and it alone", x.booth(0, 6) + x.booth(1, 6) + x.booth(3, 6), 0);
        x.pass(12);
        due("5: 599 % 4", x.booth(3, 6), 1);
        due("5: no longer", x.booth(2, 6), 0);
        due("5: its cost again", x.booth(2, 0), 3);
    }

    // ---- promise 6

    private static void work() {
        FeteBoard x = new FeteBoard();
        refused("6: no helper", x, INDEX, () -> x.work(0, -1));
        x.addHelper();
        x.addHelper();
        refused("6: no booth", x, INDEX, () -> x.work(0, 0));
        x.addBooth(1, 0, 0, 1);
        x.addBooth(1, 0, 0, 2);
        refused("6: booth 2", x, INDEX, () -> x.work(0, 2));
        refused("6: helper 2", x, INDEX, () -> x.work(2, 0));
        refused("6: helper -1", x, INDEX, () -> x.work(-1, 0));
        for (int far : FAR_OFF) {
            refused("6: helper far off", x, INDEX, () -> x.work(far, 0));
            refused("6: booth far off", x, INDEX, () -> x.work(0, far));
        }
        due("6: rested", x.work(0, 0), -1);
        due("6: the same again", x.work(0, 0), 0);
        boothIs("6: one there", x, 0, 1, 0, 0, 1, 1, 1);
        due("6: from 0 to 1", x.work(0, 1), 0);
        boothIs("6: none there", x, 0, 1, 0, 0, 1, 0, 0);
        boothIs("6: too few there", x, 1, 1, 0, 0, 2, 1, 0);
        due("6: a second", x.work(1, 1), -1);
        boothIs("6: enough there", x, 1, 1, 0, 0, 2, 2, 1);
        due("6: to rest", x.work(0, -1), 1);
        due("6: still", x.work(0, -1), -1);
        boothIs("6: too few again", x, 1, 1, 0, 0, 2, 1, 0);
    }

    // ---- promise 7

    private static void bring() {
        FeteBoard x = new FeteBoard();
        refused("7: no booth", x, INDEX, () -> x.bring(0, 1));
        x.addBooth(1, 0, 0, 1);
        refused("7: booth -1", x, INDEX, () -> x.bring(-1, 0));
        refused("7: booth 1", x, INDEX, () -> x.bring(1, 100));
        refused("7: 0 prizes", x, ARGUMENT, () -> x.bring(0, 0));
        refused("7: 100 prizes", x, ARGUMENT, () -> x.bring(0, 100));
        for (int far : FAR_OFF) {
            refused("7: prizes far off", x, ARGUMENT, () -> x.bring(0, far));
            refused("7: booth far off", x, INDEX, () -> x.bring(far, 1));
        }
        due("7: 1", x.bring(0, 1), 1);
        refused("7: 1 and 99", x, STATE, () -> x.bring(0, 99));
        due("7: 1 and 98", x.bring(0, 98), 99);
        refused("7: one too many", x, STATE, () -> x.bring(0, 1));
        refused("7: a wrong number ahead of too many", x, ARGUMENT, () -> x.bring(0, 100));
        due("7: prizes", x.booth(0, 2), 99);
        x.addBooth(1, 0, 0, 1);
        due("7: 99 at once", x.bring(1, 99), 99);
    }

    // ---- promise 8

    private static void sell() {
        FeteBoard x = new FeteBoard();
        refused("8: no visitor", x, INDEX, () -> x.sell(0, 1));
        x.come(0, 0);
        refused("8: visitor -1", x, INDEX, () -> x.sell(-1, 0));
        refused("8: visitor 1", x, INDEX, () -> x.sell(1, 201));
        refused("8: 0 tokens", x, ARGUMENT, () -> x.sell(0, 0));
        refused("8: 201 tokens", x, ARGUMENT, () -> x.sell(0, 201));
        for (int far : FAR_OFF) {
            refused("8: tokens far off", x, ARGUMENT, () -> x.sell(0, far));
            refused("8: visitor far off", x, INDEX, () -> x.sell(far, 1));
        }
        x.pass(1);
        due("8: gone home", x.visitor(0, 2), 2);
        due("8: 200", x.sell(0, 200), 200);
        due("8: strolls again", x.visitor(0, 2), 0);
        due("8: more than 200", x.sell(0, 200), 400);
        due("8: 1", x.sell(0, 1), 401);
        x.addBooth(9, 60, 9, 1);
        x.come(9, 0);
        helpersAt(x, 0);
        x.pass(1);
        due("8: in a queue", x.visitor(1, 2), 1);
        due("8: sold in the queue", x.sell(1, 3), 12);
        due("8: still in the queue", x.visitor(1, 3), 0);
    }

    // ---- promise 9

    private static void leave() {
        FeteBoard x = new FeteBoard();
        refused("9: no visitor", x, INDEX, () -> x.leave(0));
        for (int v = 0; v < 5; v++) {
            x.come(20, 0);
        }
        x.come(0, 0);
        refused("9: visitor -1", x, INDEX, () -> x.leave(-1));
        refused("9: visitor 6", x, INDEX, () -> x.leave(6));
        for (int far : FAR_OFF) {
            refused("9: far off", x, INDEX, () -> x.leave(far));
        }
        x.pass(1);
        x.addBooth(1, 60, 9, 1);
        x.addBooth(9, 60, 0, 1);
        helpersAt(x, 0);
        x.pass(1);
        queueIs("9: four are left", x, 0, 1, 2, 3, 4);
        due("9: strolls", x.leave(0), -1);
        due("9: gone home", x.leave(5), -1);
        due("9: still at home", x.visitor(5, 2), 2);
        due("9: out of the middle", x.leave(2), 0);
        queueIs("9: out of the middle", x, 0, 1, 3, 4);
        visitorIs("9: strolls then", x, 2, 20, 0, 0, -1);
        due("9: no more", x.leave(2), -1);
        due("9: the last", x.leave(4), 0);
        due("9: the first", x.leave(1), 0);
        queueIs("9: one is left", x, 0, 3);
        due("9: the only one", x.leave(3), 0);
        queueIs("9: none", x, 0);
        x.pass(1);
        queueIs("9: in the next round, by numbers", x, 0, 1, 2, 3, 4);
    }

    // ---- promise 10

    private static void booth() {
        FeteBoard x = new FeteBoard();
        x.addBooth(3, 10, 5, 1);
        x.addBooth(4, 60, 6, 2);
        for (int v = 0; v < 4; v++) {
            x.come(20, 5 * v);
        }
        helpersAt(x, 0, 1, 1, 1);
        x.pass(1);
        boothIs("10: unmarked", x, 0, 3, 10, 5, 1, 1, 1, 0, 1, 1, 3);
        boothIs("10: marked", x, 1, 3, 60, 6, 2, 3, 1, 1, 0, 2, 6);
        refused("10: what -1", x, INDEX, () -> x.booth(0, -1));
        refused("10: what 10", x, INDEX, () -> x.booth(0, 10));
        refused("10: booth -1", x, INDEX, () -> x.booth(-1, 0));
        refused("10: booth 2", x, INDEX, () -> x.booth(2, 0));
        for (int far : FAR_OFF) {
            refused("10: booth far off", x, INDEX, () -> x.booth(far, 0));
            refused("10: what far off", x, INDEX, () -> x.booth(0, far));
        }
    }

    // ---- promise 11

    private static void queue() {
        FeteBoard x = new FeteBoard();
        refused("11: no booth", x, INDEX, () -> x.queue(0, 0));
        x.addBooth(1, 0, 99, 1);
        refused("11: nobody", x, INDEX, () -> x.queue(0, 0));
        for (int v = 0; v < 16; v++) {
            x.come(20, 0);
        }
        helpersAt(x, 0);
        x.pass(1);
        queueIs("11: by numbers", x, 0, 1, 2, 3, 4, 5, 6, 7, 8, 9, 10, 11, 12, 13, 14, 15);
        x.pass(1);
        queueIs("11: the first one comes to the end", x, 0, 2, 3, 4, 5, 6, 7, 8, 9, 10, 11, 12, 13, 14, 15, 0);
        refused("11: place -1", x, INDEX, () -> x.queue(0, -1));
        refused("11: booth -1", x, INDEX, () -> x.queue(-1, 0));
        refused("11: booth 1", x, INDEX, () -> x.queue(1, 0));
        for (int far : FAR_OFF) {
            refused("11: booth far off", x, INDEX, () -> x.queue(far, 0));
            refused("11: place far off", x, INDEX, () -> x.queue(0, far));
        }
    }

    // ---- promise 12

    private static void helper() {
        FeteBoard x = new FeteBoard();
        refused("12: none", x, INDEX, () -> x.helper(0, 0));
        x.addBooth(1, 0, 0, 3);
        helpersAt(x, 0, -1);
        x.pass(5);
        helperIs("12: works, though the booth isn't open", x, 0, 19, 0, 5);
        helperIs("12: rests", x, 1, 24, -1, 0);
        refused("12: what -1", x, INDEX, () -> x.helper(0, -1));
        refused("12: what 3", x, INDEX, () -> x.helper(0, 3));
        refused("12: helper -1", x, INDEX, () -> x.helper(-1, 0));
        refused("12: helper 2", x, INDEX, () -> x.helper(2, 0));
        for (int far : FAR_OFF) {
            refused("12: helper far off", x, INDEX, () -> x.helper(far, 0));
            refused("12: what far off", x, INDEX, () -> x.helper(0, far));
        }
    }

    // ---- promise 13

    private static void visitor() {
        FeteBoard x = new FeteBoard();
        refused("13: none", x, INDEX, () -> x.visitor(0, 0));
        x.addBooth(2, 20, 5, 1);
        x.come(9, 10);
        x.come(8, 9);
        x.come(0, 30);
        helpersAt(x, 0);
        x.pass(2);
        visitorIs("13: played, and waits", x, 0, 8, 10, 1, 0, 1, 0, 1, 20);
        visitorIs("13: played, missed the goal", x, 1, 7, 9, 0, -1, 0, 0, 1, 18);
        visitorIs("13: went home", x, 2, 0, 30, 2, -1, 0, 0, 0, 0);
        refused("13: what -1", x, INDEX, () -> x.visitor(0, -1));
        refused("13: what 8", x, INDEX, () -> x.visitor(0, 8));
        refused("13: visitor -1", x, INDEX, () -> x.visitor(-1, 0));
        refused("13: visitor 3", x, INDEX, () -> x.visitor(3, 0));
        for (int far : FAR_OFF) {
            refused("13: visitor far off", x, INDEX, () -> x.visitor(far, 0));
            refused("13: what far off", x, INDEX, () -> x.visitor(0, far));
        }
    }

    private static void bestPlayStays() {
        FeteBoard x = new FeteBoard();
        x.addBooth(1, 60, 99, 1);
        x.come(99, 10);
        helpersAt(x, 0, 0);
        x.pass(1);
        due("13: 10, 5 for a helper more, twice", x.visitor(0, 7), 30);
        x.addBooth(1, 60, 99, 1);
        x.work(0, -1);
        x.work(1, 1);
        x.pass(1);
        due("13: a play with fewer points", x.booth(1, 8), 1);
        due("13: the most points stay", x.visitor(0, 7), 30);
    }

    // ---- promise 14

    private static void practice() {
        bestPlayStays();
        FeteBoard x = new FeteBoard();
        refused("14: nothing there", x, INDEX, () -> x.practice(0, 0));
        x.addBooth(1, 60, 9, 1);
        x.come(99, 0);
        refused("14: visitor 1", x, INDEX, () -> x.practice(1, 0));
        refused("14: booth 1", x, INDEX, () -> x.practice(0, 1));
        refused("14: visitor -1", x, INDEX, () -> x.practice(-1, 0));
        refused("14: booth -1", x, INDEX, () -> x.practice(0, -1));
        for (int far : FAR_OFF) {
            refused("14: visitor far off", x, INDEX, () -> x.practice(far, 0));
            refused("14: booth far off", x, INDEX, () -> x.practice(0, far));
        }
        x.addBooth(1, 60, 0, 1);
        helpersAt(x, 0);
        for (int plays = 0; plays <= 12; plays++) {
            due("14: behind " + plays + " plays", x.practice(0, 0), plays > 9 ? 9 : plays);
            due("14: at the other booth", x.practice(0, 1), 0);
            x.pass(1);
        }
        due("14: nine times 3, unmarked", x.visitor(0, 7), 27);
    }

    // ---- promise 15

    private static void board() {
        FeteBoard x = new FeteBoard();
        refused("15: empty", x, INDEX, () -> x.board(0, 0));
        x.pass(1);
        x.addBooth(1, 60, 9, 1);
        x.addBooth(1, 60, 9, 1);
        x.come(9, 4);
        x.come(9, 6);
        helpersAt(x, 0, 1);
        x.pass(1);
        lineIs("15: first", x, 0, 1, 1, 6);
        lineIs("15: second", x, 1, 0, 0, 4);
        refused("15: line 2", x, INDEX, () -> x.board(2, 0));
        refused("15: line -1", x, INDEX, () -> x.board(-1, 0));
        refused("15: what -1", x, INDEX, () -> x.board(0, -1));
        refused("15: what 3", x, INDEX, () -> x.board(0, 3));
        for (int far : FAR_OFF) {
            refused("15: line far off", x, INDEX, () -> x.board(far, 0));
            refused("15: what far off", x, INDEX, () -> x.board(0, far));
        }
        x.pass(1);
        due("15: three lines", x.count(9), 3);
        refused("15: line 3", x, INDEX, () -> x.board(3, 0));
    }

    // ---- promise 16, and how a round goes

    private static void pass() {
        FeteBoard x = new FeteBoard();
        refused("16: 0", x, ARGUMENT, () -> x.pass(0));
        refused("16: -1", x, ARGUMENT, () -> x.pass(-1));
        refused("16: 201", x, ARGUMENT, () -> x.pass(201));
        for (int far : FAR_OFF) {
            refused("16: far off", x, ARGUMENT, () -> x.pass(far));
        }
        x.addBooth(1, 0, 7, 1);
        x.come(50, 0);
        helpersAt(x, 0);
        due("16: one", x.pass(1), 1);
        due("16: four", x.pass(4), 4);
        due("16: two prizes are left", x.pass(200), 2);
        due("16: the round", x.count(0), 205);
        due("16: all", x.count(8), 7);
    }

    private static void choosing() {
        FeteBoard x = new FeteBoard();
        x.pass(1);
        x.addBooth(1, 60, 9, 1);
        x.addBooth(5, 60, 9, 1);
        x.addBooth(2, 60, 0, 1);
        x.addBooth(2, 60, 9, 1);
        x.addBooth(2, 60, 9, 1);
        helpersAt(x, -1, 1, 2, 3, 4);
        x.come(4, 0);
        x.come(1, 0);
        x.come(5, 0);
        x.come(2, 0);
        x.pass(1);
        due("16: not closed, too dear, or without prizes", x.practice(0, 3), 1);
        visitorIs("16: too poor for all, but has a token", x, 1, 1, 0, 0, -1);
        due("16: as many tokens as it costs, the shortest queue", x.practice(2, 1), 1);
        due("16: the shortest queue, the smallest number", x.practice(3, 4), 1);
        due("16: spent all", x.visitor(2, 0) + x.visitor(3, 0), 0);
        due("16: not gone before choosing", x.count(6), 0);
        x.pass(1);
        due("16: gone home without a token", x.visitor(2, 2) + x.visitor(3, 2), 4);
        choosingByPractice();
        choosingByQueue();
        playsForNothing();
    }

    private static void choosingByPractice() {
        FeteBoard x = new FeteBoard();
        x.pass(1);
        x.addBooth(1, 60, 9, 1);
        x.addBooth(1, 60, 9, 1);
        x.come(50, 0);
        helpersAt(x, 1);
        x.pass(1);
        helpersAt(x, 0);
        x.pass(1);
        due("16: more practice there", x.practice(0, 1), 2);
        due("16: less practice here", x.practice(0, 0), 0);
    }

    private static void choosingByQueue() {
        FeteBoard x = new FeteBoard();
        x.pass(1);
        x.addBooth(1, 60, 9, 1);
        x.come(50, 0);
        x.come(50, 0);
        x.come(50, 0);
        helpersAt(x, 0);
        x.pass(1);
        queueIs("16: two wait", x, 0, 1, 2);
        x.addBooth(9, 60, 9, 1);
        helpersAt(x, 1);
        x.pass(1);
        due("16: the queue counts ahead of practice", x.practice(0, 1), 1);
        queueIs("16: one waits", x, 0, 2);
    }

    private static void playsForNothing() {
        FeteBoard x = new FeteBoard();
        x.addBooth(1, 60, 9, 1);
        x.come(0, 3);
        helpersAt(x, 0);
        x.pass(1);
        due("16: a marked booth that costs nothing", x.booth(0, 8), 1);
        boothIs("16: nothing is paid", x, 0, 0, 60, 9, 1, 1, 1, 1, 0, 1, 0);
        due("16: strolls", x.visitor(0, 2), 0);
    }

    private static void playing() {
        FeteBoard x = new FeteBoard();
        x.addBooth(3, 16, 2, 2);
        x.come(50, 1);
        x.come(50, 2);
        x.come(50, 3);
        x.come(50, 4);
        x.come(50, 5);
        helpersAt(x, 0, 0, 0, 0);
        due("16: the goal, twice the points, two prizes", x.pass(1), 2);
        boothIs("16: as many plays as helpers", x, 0, 2, 16, 0, 2, 4, 1, 1, 1, 4, 8);
        due("16: (1 + 5 * 2) * 2", x.visitor(0, 7), 22);
        due("16: 1 has one", x.visitor(1, 4), 1);
        due("16: no prize is left", x.visitor(2, 4), 0);
        queueIs("16: the fifth waits", x, 0, 4);
        due("16: without a prize there's still a play", x.pass(1), 0);
        due("16: nobody new came", x.booth(0, 8), 5);
        goalIsReached();
        tooPoorAtTheFront();
    }

    private static void goalIsReached() {
        FeteBoard x = new FeteBoard();
        x.pass(1);
        x.addBooth(1, 10, 9, 1);
        x.come(50, 9);
        x.come(50, 10);
        helpersAt(x, 0);
        due("16: one point short", x.pass(1), 0);
        due("16: just the goal", x.pass(1), 1);
        due("16: practice counts 3", x.pass(1), 1);
        due("16: 9 + 3", x.visitor(0, 7), 12);
    }

    /** One who chose while the mark made it cheaper can't pay when the mark is gone. */
    private static void tooPoorAtTheFront() {
        FeteBoard x = new FeteBoard();
        x.addBooth(2, 0, 9, 1);
        x.come(50, 0);
        x.come(1, 7);
        x.addHelper();
        x.pass(11);
        x.work(0, 0);
        x.pass(1);
        queueIs("16: waits with 1 token", x, 0, 1);
        x.addBooth(9, 0, 0, 3);
        x.setDart(1);
        x.pass(1);
        due("16: the mark is gone", x.booth(0, 6), 0);
        visitorIs("16: strolls without a play", x, 1, 1, 7, 0, -1, 0, 0, 0, 0);
        due("16: that was the helper's one time", x.booth(0, 8), 1);
        queueIs("16: the other one waits", x, 0, 0);
        due("16: no practice", x.practice(1, 0), 0);
        due("16: not on the board", x.count(9), 0);
    }

    // ---- the board in play

    private static void playsOnTheBoard() {
        FeteBoard x = new FeteBoard();
        x.pass(1);
        x.addBooth(1, 60, 9, 1);
        int[] skills = {5, 9, 5, 5, 7, 5};
        for (int skill : skills) {
            x.come(1, skill);
        }
        helpersAt(x, 0);
        x.pass(1);
        lineIs("15: 5", x, 0, 0, 0, 5);
        x.pass(1);
        lineIs("15: ahead of fewer", x, 0, 1, 0, 9);
        lineIs("15: pushed down", x, 1, 0, 0, 5);
        x.pass(1);
        lineIs("15: behind the same", x, 1, 0, 0, 5);
        lineIs("15: the same", x, 2, 2, 0, 5);
        x.pass(1);
        due("15: no fourth line", x.count(9), 3);
        lineIs("15: the same stays", x, 2, 2, 0, 5);
        x.pass(1);
        lineIs("15: first stays", x, 0, 1, 0, 9);
        lineIs("15: between", x, 1, 4, 0, 7);
        lineIs("15: the later 5 is rubbed out", x, 2, 0, 0, 5);
        x.pass(1);
        lineIs("15: nothing new", x, 2, 0, 0, 5);
        linesOfSeveralBooths();
    }

    private static void linesOfSeveralBooths() {
        FeteBoard x = new FeteBoard();
        x.pass(1);
        for (int b = 0; b < 3; b++) {
            x.addBooth(1, 60, 9, 1);
            x.come(9, 3 + b);
            helpersAt(x, b);
        }
        x.pass(1);
        lineIs("15: the last play", x, 0, 2, 2, 5);
        lineIs("15: pushed down once", x, 1, 1, 1, 4);
        lineIs("15: pushed down twice", x, 2, 0, 0, 3);
    }

    private static void tiring() {
        FeteBoard x = new FeteBoard();
        x.addBooth(1, 60, 9, 1);
        helpersAt(x, 0, -1);
        x.pass(23);
        helperIs("16: one strength left", x, 0, 1, 0, 23);
        x.pass(1);
        helperIs("16: rests, with 2 at once", x, 0, 2, -1, 24);
        due("16: closed", x.booth(0, 5), 0);
        helperIs("16: at most 24", x, 1, 24, -1, 0);
        x.pass(10);
        helperIs("16: 2 more each", x, 0, 22, -1, 24);
        x.work(0, 0);
        x.pass(1);
        helperIs("16: works again", x, 0, 21, 0, 25);
        x.work(0, -1);
        x.pass(2);
        helperIs("16: 21 and 2 twice is 24", x, 0, 24, -1, 25);
    }

    private static void endOfAnHour() {
        FeteBoard x = new FeteBoard();
        x.pass(1);
        x.addBooth(1, 60, 9, 1);
        x.addBooth(1, 60, 9, 1);
        x.come(1, 9);
        x.come(3, 8);
        x.come(3, 7);
        x.come(3, 6);
        helpersAt(x, 0, 0);
        x.pass(1);
        x.work(1, -1);
        x.pass(1);
        due("16: gone home, first on the board", x.visitor(0, 2), 2);
        queueIs("16: waits", x, 0, 3, 1);
        x.work(0, -1);
        x.pass(8);
        queueIs("16: still, at a closed booth", x, 0, 3, 1);
        lineIs("16: still on the board", x, 0, 0, 0, 14);
        x.pass(1);
        due("16: the board is empty", x.count(9), 0);
        queueIs("16: those at a closed booth stroll", x, 0);
        visitorIs("16: first line", x, 0, 5, 9, 2, -1, 0, 3, 1, 14);
        visitorIs("16: second line", x, 1, 2, 8, 0, -1, 0, 2, 1, 13);
        visitorIs("16: third line", x, 2, 2, 7, 0, -1, 0, 1, 1, 7);
        visitorIs("16: no line", x, 3, 3, 6, 0, -1, 0, 0, 0, 0);
        queuesOfOpenBoothsStay();
        twoLinesOfOne();
        closedByTheLastRound();
    }

    private static void queuesOfOpenBoothsStay() {
        FeteBoard x = new FeteBoard();
        x.pass(11);
        x.addBooth(1, 60, 9, 1);
        x.come(9, 9);
        x.come(9, 8);
        helpersAt(x, 0);
        x.pass(1);
        queueIs("16: an open booth's queue stays", x, 0, 1);
    }

    private static void twoLinesOfOne() {
        FeteBoard x = new FeteBoard();
        x.pass(10);
        x.addBooth(1, 60, 9, 1);
        x.come(9, 9);
        helpersAt(x, 0);
        x.pass(2);
        visitorIs("16: 3 and 2 marks, 5 tokens once", x, 0, 12, 9, 0, -1, 0, 5, 2, 12);
    }

    /** The helper's last strength goes in the hour's last round: the queue is left in it. */
    private static void closedByTheLastRound() {
        FeteBoard x = new FeteBoard();
        x.addBooth(1, 60, 9, 1);
        x.come(200, 9);
        x.come(200, 8);
        helpersAt(x, 0);
        x.pass(23);
        due("16: one waits", x.count(5), 1);
        x.pass(1);
        due("16: tired out", x.helper(0, 1), -1);
        due("16: the queue is left", x.count(5), 0);
    }

    // ---- promise 17

    private static void count() {
        FeteBoard x = new FeteBoard();
        x.addBooth(1, 0, 3, 1);
        x.addBooth(9, 60, 7, 1);
        x.addBooth(9, 60, 50, 3);
        x.come(5, 0);
        x.come(5, 0);
        x.come(5, 0);
        x.come(0, 0);
        helpersAt(x, 0, 1, 2, -1);
        x.setDart(5);
        x.pass(1);
        int[] want = {1, 3, 4, 4, 2, 2, 1, 59, 1, 1, 449};
        for (int what = 0; what < want.length; what++) {
            due("17: count(" + what + ")", x.count(what), want[what]);
        }
        FeteBoard two = new FeteBoard();
        two.addBooth(1, 0, 3, 1);
        two.come(0, 0);
        two.pass(1);
        due("17: the first one is home", two.count(6), 1);
        two.sell(0, 9);
        two.come(9, 0);
        two.come(9, 0);
        helpersAt(two, 0);
        two.pass(2);
        due("17: the first one is in a queue", two.visitor(0, 2), 1);
        due("17: with one more", two.count(5), 2);
        refused("17: -1", x, INDEX, () -> x.count(-1));
        refused("17: 11", x, INDEX, () -> x.count(11));
        for (int far : FAR_OFF) {
            refused("17: far off", x, INDEX, () -> x.count(far));
        }
    }

    // ---- promise 18

    private static FeteBoard busyGreen() {
        FeteBoard x = new FeteBoard();
        x.addBooth(2, 12, 20, 1);
        x.addBooth(1, 20, 9, 2);
        x.addBooth(3, 8, 30, 1);
        x.come(60, 10);
        x.come(45, 4);
        x.come(0, 30);
        x.come(40, 15);
        x.come(80, 22);
        helpersAt(x, 0, 1, 1, 2, -1);
        x.pass(7);
        return x;
    }

    private static void foresee() {
        FeteBoard none = new FeteBoard();
        refused("18: no visitor", none, INDEX, () -> none.foresee(0, 1, 0));
        FeteBoard x = busyGreen();
        refused("18: visitor -1", x, INDEX, () -> x.foresee(-1, 0, 0));
        refused("18: visitor 5", x, INDEX, () -> x.foresee(5, 101, 0));
        refused("18: what -1", x, INDEX, () -> x.foresee(0, 0, -1));
        refused("18: what 3", x, INDEX, () -> x.foresee(0, 101, 3));
        refused("18: rounds 0", x, ARGUMENT, () -> x.foresee(0, 0, 0));
        refused("18: rounds 101", x, ARGUMENT, () -> x.foresee(0, 101, 0));
        for (int far : FAR_OFF) {
            refused("18: visitor far off", x, INDEX, () -> x.foresee(far, 1, 0));
            refused("18: rounds far off", x, ARGUMENT, () -> x.foresee(0, far, 0));
            refused("18: what far off", x, INDEX, () -> x.foresee(0, 1, far));
        }
        int[] facts = {4, 0, 5};
        for (int rounds = 1; rounds <= 100; rounds++) {
            FeteBoard now = busyGreen();
            FeteBoard then = busyGreen();
            then.pass(rounds);
            for (int v = 0; v < 5; v++) {
                for (int what = 0; what < 3; what++) {
                    due("18: foresee(" + v + ", " + rounds + ", " + what + ")",
                            now.foresee(v, rounds, what), then.visitor(v, facts[what]));
                }
            }
            due("18: nothing is changed", now.digest() == busyGreen().digest() ? 1 : 0, 1);
        }
        foreseeFromTheBoard();
        foreseeOneAtHome();
    }

    private static void foreseeFromTheBoard() {
        FeteBoard x = new FeteBoard();
        x.pass(1);
        x.addBooth(1, 60, 9, 1);
        x.come(1, 5);
        x.come(1, 6);
        x.come(2, 3);
        x.come(2, 4);
        helpersAt(x, 0);
        x.pass(4);
        x.work(0, -1);
        int[] marks = {2, 3, 0, 1};
        for (int v = 0; v < 4; v++) {
            due("18: marks of what stands on the board", x.foresee(v, 7, 2), marks[v]);
            due("18: not yet", x.foresee(v, 6, 2), 0);
        }
        due("18: 5 tokens for the first", x.foresee(1, 7, 1), 5);
        x.work(0, 0);
        int[] marksBesideTheNext = {0, 2, 1, 3};
        for (int v = 0; v < 4; v++) {
            due("18: the next two plays, 6 and 7, beside 6 and 5", x.foresee(v, 7, 2), marksBesideTheNext[v]);
        }
    }

    private static void foreseeOneAtHome() {
        FeteBoard x = new FeteBoard();
        x.pass(1);
        x.addBooth(1, 0, 9, 1);
        x.come(1, 5);
        helpersAt(x, 0);
        x.pass(11);
        due("18: went home, and got 5 tokens", x.visitor(0, 0), 5);
        due("18: plays no more", x.foresee(0, 3, 0), 1);
        x.sell(0, 1);
        due("18: strolls again", x.foresee(0, 3, 0), 4);
    }

    // ---- promise 19

    private static void closes() {
        FeteBoard x = new FeteBoard();
        refused("19: no booth", x, INDEX, () -> x.closes(0));
        x.addBooth(1, 0, 9, 1);
        x.addBooth(1, 0, 9, 2);
        refused("19: booth -1", x, INDEX, () -> x.closes(-1));
        refused("19: booth 2", x, INDEX, () -> x.closes(2));
        for (int far : FAR_OFF) {
            refused("19: far off", x, INDEX, () -> x.closes(far));
        }
        helpersAt(x, 0);
        due("19: all strength", x.closes(0), 24);
        due("19: not open now", x.closes(1), 0);
        x.pass(10);
        due("19: behind 10 rounds", x.closes(0), 14);
        helpersAt(x, 0, 1, 1);
        due("19: another is fresh", x.closes(0), 24);
        x.work(0, 1);
        x.work(1, -1);
        due("19: no more there", x.closes(0), 0);
        due("19: two of three are fresh", x.closes(1), 24);
        x.work(2, -1);
        due("19: one of two is tired", x.closes(1), 14);
        x.pass(13);
        due("19: 1 round is left", x.closes(1), 1);
        long before = x.digest();
        x.closes(1);
        due("19: nothing is changed", x.digest(), before);
        x.pass(1);
        due("19: closed", x.closes(1), 0);
    }

    // ---- promise 20

    private static void advise() {
        FeteBoard x = new FeteBoard();
        refused("20: no helper", x, INDEX, () -> x.advise(0, 1));
        x.addHelper();
        x.addHelper();
        refused("20: helper -1", x, INDEX, () -> x.advise(-1, 0));
        refused("20: helper 2", x, INDEX, () -> x.advise(2, 61));
        refused("20: rounds 0", x, ARGUMENT, () -> x.advise(0, 0));
        refused("20: rounds 61", x, ARGUMENT, () -> x.advise(0, 61));
        for (int far : FAR_OFF) {
            refused("20: helper far off", x, INDEX, () -> x.advise(far, 1));
            refused("20: rounds far off", x, ARGUMENT, () -> x.advise(0, far));
        }
        due("20: no booth", x.advise(0, 60), -1);
        x.pass(1);
        x.addBooth(1, 60, 9, 1);
        x.addBooth(1, 0, 3, 1);
        x.addBooth(1, 0, 9, 1);
        x.addBooth(1, 0, 9, 1);
        x.addBooth(1, 0, 9, 2);
        x.come(50, 0);
        due("20: each wins 1 in 1 round, the smallest number", x.advise(0, 1), 1);
        due("20: 3 in 3 rounds", x.advise(0, 3), 1);
        due("20: the second has more prizes", x.advise(0, 4), 2);
        x.work(1, 4);
        due("20: just one helper short", x.advise(0, 2), 1);
        long before = x.digest();
        x.work(0, 2);
        due("20: where this one works doesn't matter", x.advise(0, 4), 2);
        due("20: and stays", x.helper(0, 1), 2);
        x.work(0, -1);
        due("20: nothing is changed", x.digest(), before);
        notMoreThanResting();
        tiredHelper();
    }

    private static void notMoreThanResting() {
        FeteBoard x = new FeteBoard();
        x.addBooth(1, 0, 99, 1);
        x.addBooth(1, 0, 99, 1);
        x.come(50, 0);
        helpersAt(x, 0, 1);
        due("20: one visitor, one play a round", x.advise(1, 10), -1);
        x.come(50, 0);
        due("20: two visitors", x.advise(1, 10), 0);
    }

    private static void tiredHelper() {
        FeteBoard x = new FeteBoard();
        x.addBooth(1, 0, 99, 1);
        x.come(200, 0);
        helpersAt(x, 0, -1);
        due("20: all goes well for 24 rounds", x.advise(1, 24), -1);
        x.pass(20);
        due("20: for 4 more", x.advise(1, 4), -1);
        due("20: not for 5", x.advise(1, 5), 0);
    }

    // ---- promise 21

    private static void luck() {
        FeteBoard x = new FeteBoard();
        due("21: no plays", x.luck(), 0);
        x.pass(1);
        x.addBooth(1, 60, 9, 1);
        x.addBooth(1, 0, 1, 1);
        x.come(50, 0);
        helpersAt(x, 0);
        x.pass(1);
        due("21: one play, no prize", x.luck(), 0);
        x.work(0, 1);
        x.pass(1);
        due("21: 1 of 2", x.luck(), 0.5);
        x.work(0, 0);
        x.pass(1);
        due("21: 1 of 3", x.luck(), 1 / 3.0);
    }

    // ---- promise 22

    private static void digest() {
        long d = 653;
        for (int what = 0; what < 10; what++) {
            d *= 31;
        }
        due("22: nothing there", new FeteBoard().digest() == d * 31 + 1 ? 1 : 0, 1);
        for (int rounds = 1; rounds <= 40; rounds++) {
            FeteBoard x = busyGreen();
            x.pass(rounds);
            due("22: in round " + x.count(0), x.digest() == toldDigest(x) ? 1 : 0, 1);
        }
        fullGreen();
    }

    /** All that there can be: no row's end is overrun. */
    private static void fullGreen() {
        for (int hour = 0; hour < 3; hour++) {
            FeteBoard told = fullGreenIn(hour);
            due("22: a full green is told", told.digest() == toldDigest(told) ? 1 : 0, 1);
            FeteBoard x = fullGreenIn(hour);
            for (int h = 0; h < 12; h++) {
                int best = x.advise(h, 3);
                due("20: a booth, or none", best >= -1 && best < 8 ? 1 : 0, 1);
            }
            int will = x.foresee(15, 12, 0);
            int closes = x.closes(7);
            x.pass(12);
            due("18: on a full green", will, x.visitor(15, 4));
            due("19: on a full green", closes > 12 ? 1 : 0, x.booth(7, 5));
            due("21: on a full green", x.luck(), x.count(8) / (double) playsOf(x));
        }
    }

    /** Each hour the helpers go one booth on. */
    private static FeteBoard fullGreenIn(int hour) {
        FeteBoard x = new FeteBoard();
        for (int b = 0; b < 8; b++) {
            x.addBooth(1 + b % 2, 7 * b, 99, 1);
        }
        for (int h = 0; h < 12; h++) {
            helpersAt(x, h % 8);
        }
        for (int v = 0; v < 16; v++) {
            x.come(200, 2 * v);
        }
        for (int past = 1; past <= hour; past++) {
            x.pass(12);
            for (int h = 0; h < 12; h++) {
                x.work(h, (h + past) % 8);
            }
        }
        return x;
    }

    private static int playsOf(FeteBoard x) {
        int plays = 0;
        for (int v = 0; v < x.count(3); v++) {
            plays += x.visitor(v, 6);
        }
        return plays;
    }

    private static long toldDigest(FeteBoard x) {
        int booths = x.count(1);
        int helpers = x.count(2);
        int visitors = x.count(3);
        int lines = x.count(9);
        long d = 653;
        for (int what = 0; what <= 10; what++) {
            d = d * 31 + x.count(what);
        }
        for (int b = 0; b < booths; b++) {
            for (int what = 0; what <= 9; what++) {
                d = d * 31 + x.booth(b, what);
            }
            int queued = x.booth(b, 7);
            for (int i = 0; i < queued; i++) {
                d = d * 31 + x.queue(b, i);
            }
        }
        for (int h = 0; h < helpers; h++) {
            for (int what = 0; what <= 2; what++) {
                d = d * 31 + x.helper(h, what);
            }
        }
        for (int v = 0; v < visitors; v++) {
            for (int what = 0; what <= 7; what++) {
                d = d * 31 + x.visitor(v, what);
            }
            for (int b = 0; b < booths; b++) {
                d = d * 31 + x.practice(v, b);
            }
        }
        for (int line = 0; line < lines; line++) {
            for (int what = 0; what <= 2; what++) {
                d = d * 31 + x.board(line, what);
            }
        }
        return d;
    }
}
