import java.util.ArrayList;
import java.util.List;
import java.util.function.Supplier;
import java.util.function.ToIntFunction;

/**
 * Each refusal that a promise lists, each two that can fit at once in their order, and that a refused
 * call changes nothing: two objects are made alike, one of them is asked what is refused, and both
 * must answer the same from then on.
 */
public final class RefusalTest extends OfficeCheck {
    private static final int[] FAR = {LEAST_INT, LEAST_INT + 1, -1000000, -100, 100000, GREATEST_INT - 1, GREATEST_INT};
    /** Tape 0 is missing, tape 1 has none, tape 2 is full. */
    private static final int MISSING = 0, BARE = 1, TWELVE = 2;

    public static void main(String[] args) {
        write();
        office();
        rhythmAndLight();
        like();
        lit();
        darkAndMove();
        undoKeepAndBack();
        plan();
        mostApartAndMachine();
        watchSeeAndLeft();
        tapeAndDrop();
        put();
        draw();
        turn();
        find();
        strike();
        load();
        count();
        farNumbers();
        whatOnlyAnswers();
        CHECK.end();
    }

    // ---- objects that are made alike

    /** Five beats, three rhythms, three lights, one of them dark; all that can be at hand is at hand. */
    private static HarbourLights busy() {
        HarbourLights x = new HarbourLights();
        spell(x, "beats 5;window 3;sight 30;rhythm fdddd;rhythm ffddd;rhythm fdfdf;light 10;light 20;light 60;lit 0 0;lit 1 1");
        x.office();
        x.keep(0);
        for (int place = 61; place <= 69; place++) {
            x.move(2, place);
        }
        x.tape(BARE);
        x.tape(TWELVE);
        for (int v = 1; v <= 12; v++) {
            x.put(TWELVE, 1, v * v);
        }
        x.watch(15, 1);
        x.see(1);
        x.see(0);
        spell(x, "light 1;");
        return x;
    }

    /** Nobody watches, nothing is kept or done, the text is full. */
    private static HarbourLights quiet() {
        HarbourLights x = new HarbourLights();
        spell(x, "rhythm fddd;light 5;lit 0 0;light 6");
        x.office();
        x.tape(BARE);
        x.tape(TWELVE);
        for (int v = 1; v <= 9; v++) {
            x.put(TWELVE, 0, v);
        }
        spell(x, "sight 7" + " ".repeat(193));
        return x;
    }

    private static HarbourLights fresh() {
        return new HarbourLights();
    }

    // ---- what two of them answer

    /** Everything there is to see, first what changes nothing, then to the end of watch, tapes and done. */
    private static List<Integer> portrait(HarbourLights x) {
        List<Integer> seen = new ArrayList<>();
        coast(x, seen);
        seen.add(x.fault());
        for (int r = 0; r < x.count(3); r++) {
            seen.add(x.rhythm(r, 0));
        }
        for (int q = 0; q <= 99; q += 33) {
            seen.add(x.machine(q, 0));
            seen.add(x.machine(q, 1));
        }
        seen.add(x.plan(0, NONE));
        seen.add(x.most(1));
        watching(x, seen);
        for (int tape = 0; tape < 3; tape++) {
            tape(x, tape, seen);
        }
        past(x, seen);
        text(x, seen);
        return seen;
    }

    private static void coast(HarbourLights x, List<Integer> seen) {
        for (int what = 0; what <= 10; what++) {
            seen.add(x.count(what));
        }
        for (int l = 0; l < x.count(4); l++) {
            seen.add(x.light(l, 0));
            seen.add(x.light(l, 1));
        }
    }

    private static void watching(HarbourLights x, List<Integer> seen) {
        for (int n = 0; n < 3; n++) {
            seen.add(x.left(0, 0));
            for (int k = 0; k <= x.count(7); k++) {
                seen.add(x.left(1, k));
            }
            seen.add(x.see(0));
        }
    }

    private static void tape(HarbourLights x, int tape, List<Integer> seen) {
        int drawn;
        do {
            drawn = x.draw(tape, 0);
            seen.add(drawn);
        } while (drawn > 0);
    }

    private static void past(HarbourLights x, List<Integer> seen) {
        int can;
        do {
            can = x.undo();
            seen.add(can);
            coast(x, seen);
        } while (can > 0);
        for (int k = 0; k < 2; k++) {
            seen.add(x.back(k));
            coast(x, seen);
        }
    }

    private static void text(HarbourLights x, List<Integer> seen) {
        seen.add(x.write('r'));
        seen.add(x.fault());
        seen.add(x.office());
        seen.add(x.erase());
        seen.add(x.office());
    }

    private static void unchanged(String call, Supplier<HarbourLights> maker, ToIntFunction<HarbourLights> asked) {
        HarbourLights alike = maker.get();
        asked.applyAsInt(alike);
        List<Integer> got = portrait(alike);
        List<Integer> want = portrait(maker.get());
        CHECK.holds("nothing changes by " + call + ": " + got + " is " + want, got.equals(want));
    }

    private static void refused(String call, int want, Supplier<HarbourLights> maker, ToIntFunction<HarbourLights> asked) {
        HarbourLights x = maker.get();
        due(call, asked.applyAsInt(x), want);
        due(call + " again", asked.applyAsInt(x), want);
        unchanged(call, maker, asked);
    }

    private static void busyRefuses(String call, int want, ToIntFunction<HarbourLights> asked) {
        refused(call + " of a busy one", want, RefusalTest::busy, asked);
    }

    private static void quietRefuses(String call, int want, ToIntFunction<HarbourLights> asked) {
        refused(call + " of a quiet one", want, RefusalTest::quiet, asked);
    }

    private static void freshRefuses(String call, int want, ToIntFunction<HarbourLights> asked) {
        refused(call + " of a new one", want, RefusalTest::fresh, asked);
    }

    // ---- what is told

    private static void write() {
        promise(2);
        busyRefuses("write(-1)", OUTSIDE, x -> x.write(-1));
        busyRefuses("write(256)", OUTSIDE, x -> x.write(256));
        quietRefuses("write('a')", FULL, x -> x.write('a'));
        quietRefuses("write(0)", FULL, x -> x.write(0));
        quietRefuses("write(255)", FULL, x -> x.write(255));
        quietRefuses("write(-1), FULL too", OUTSIDE, x -> x.write(-1));
        quietRefuses("write(256), FULL too", OUTSIDE, x -> x.write(256));
    }

    private static HarbourLights busyWith(String text) {
        HarbourLights x = busy();
        x.erase();
        spell(x, text);
        return x;
    }

    private static void office() {
        promise(5);
        busyRefuses("office()", NOT, x -> x.office());
        freshRefuses("office()", NOT, x -> x.office());
        String[] faulty = {"", " ", "beats 9", "beats 3;buoy", "light 5;light 100", "sight 5;window 6", "rhythm fffff;rhythm ffff",
            "lit 2 0;lit 3 0", "lit 0 2;lit 0 3", "beats 5;lit 0 0"};
        for (String text : faulty) {
            refused("office() of '" + text + "'", NOT, () -> busyWith(text), x -> x.office());
            unchanged("fault() of '" + text + "'", () -> busyWith(text), x -> x.fault());
        }
        unchanged("fault() of a text that stands", () -> busyWith("beats 3;light 7;rhythm fff;lit 0 0"), x -> x.fault());
    }

    private static void rhythmAndLight() {
        promise(6);
        int[] noRhythms = {-1, 3};
        for (int r : noRhythms) {
            busyRefuses("rhythm(" + r + ", 0)", UNKNOWN, x -> x.rhythm(r, 0));
            busyRefuses("rhythm(" + r + ", 5), OUTSIDE too", UNKNOWN, x -> x.rhythm(r, 5));
            busyRefuses("rhythm(" + r + ", -1), OUTSIDE too", UNKNOWN, x -> x.rhythm(r, -1));
        }
        freshRefuses("rhythm(0, 0)", UNKNOWN, x -> x.rhythm(0, 0));
        freshRefuses("rhythm(0, 5), OUTSIDE too", UNKNOWN, x -> x.rhythm(0, 5));
        busyRefuses("rhythm(2, 5)", OUTSIDE, x -> x.rhythm(2, 5));
        busyRefuses("rhythm(2, -1)", OUTSIDE, x -> x.rhythm(2, -1));
        promise(7);
        int[] noLights = {-1, 3};
        for (int l : noLights) {
            busyRefuses("light(" + l + ", 0)", UNKNOWN, x -> x.light(l, 0));
            busyRefuses("light(" + l + ", 4), OUTSIDE too", UNKNOWN, x -> x.light(l, 4));
            busyRefuses("light(" + l + ", -1), OUTSIDE too", UNKNOWN, x -> x.light(l, -1));
        }
        freshRefuses("light(0, 0)", UNKNOWN, x -> x.light(0, 0));
        busyRefuses("light(2, 4)", OUTSIDE, x -> x.light(2, 4));
        busyRefuses("light(2, -1)", OUTSIDE, x -> x.light(2, -1));
    }

    private static void like() {
        promise(8);
        int[] noRhythms = {-1, 3};
        for (int r : noRhythms) {
            busyRefuses("like(" + r + ", 0, 0)", UNKNOWN, x -> x.like(r, 0, 0));
            busyRefuses("like(0, " + r + ", 0)", UNKNOWN, x -> x.like(0, r, 0));
            busyRefuses("like(" + r + ", " + r + ", 1)", UNKNOWN, x -> x.like(r, r, 1));
            busyRefuses("like(" + r + ", 0, 2), OUTSIDE too", UNKNOWN, x -> x.like(r, 0, 2));
            busyRefuses("like(0, " + r + ", -1), OUTSIDE too", UNKNOWN, x -> x.like(0, r, -1));
        }
        freshRefuses("like(0, 0, 0)", UNKNOWN, x -> x.like(0, 0, 0));
        busyRefuses("like(0, 2, 2)", OUTSIDE, x -> x.like(0, 2, 2));
        busyRefuses("like(2, 2, -1)", OUTSIDE, x -> x.like(2, 2, -1));
    }

    // ---- what is done

    private static void lit() {
        promise(9);
        busyRefuses("lit(-1, 0)", UNKNOWN, x -> x.lit(-1, 0));
        busyRefuses("lit(3, 0)", UNKNOWN, x -> x.lit(3, 0));
        busyRefuses("lit(0, 3)", UNKNOWN, x -> x.lit(0, 3));
        busyRefuses("lit(0, -1)", UNKNOWN, x -> x.lit(0, -1));
        busyRefuses("lit(2, -1), a dark one", UNKNOWN, x -> x.lit(2, -1));
        busyRefuses("lit(3, 3)", UNKNOWN, x -> x.lit(3, 3));
        busyRefuses("lit(0, 0)", NOT, x -> x.lit(0, 0));
        busyRefuses("lit(1, 1)", NOT, x -> x.lit(1, 1));
        quietRefuses("lit(0, 0)", NOT, x -> x.lit(0, 0));
        freshRefuses("lit(0, 0)", UNKNOWN, x -> x.lit(0, 0));
        HarbourLights bare = told("light 5");
        due("lit(0, 0) without rhythms", bare.lit(0, 0), UNKNOWN);
        due("lit(0, -1) without rhythms", bare.lit(0, -1), UNKNOWN);
        due("lit(0, 0) without lights", told("rhythm fddd").lit(0, 0), UNKNOWN);
    }

    private static void darkAndMove() {
        promise(10);
        busyRefuses("dark(-1)", UNKNOWN, x -> x.dark(-1));
        busyRefuses("dark(3)", UNKNOWN, x -> x.dark(3));
        busyRefuses("dark(2)", NOT, x -> x.dark(2));
        quietRefuses("dark(1)", NOT, x -> x.dark(1));
        freshRefuses("dark(0)", UNKNOWN, x -> x.dark(0));
        promise(11);
        busyRefuses("move(-1, 5)", UNKNOWN, x -> x.move(-1, 5));
        busyRefuses("move(3, 5)", UNKNOWN, x -> x.move(3, 5));
        busyRefuses("move(3, 100), OUTSIDE too", UNKNOWN, x -> x.move(3, 100));
        busyRefuses("move(-1, -1), OUTSIDE too", UNKNOWN, x -> x.move(-1, -1));
        busyRefuses("move(0, 100)", OUTSIDE, x -> x.move(0, 100));
        busyRefuses("move(0, -1)", OUTSIDE, x -> x.move(0, -1));
        busyRefuses("move(0, 10)", NOT, x -> x.move(0, 10));
        busyRefuses("move(2, 69)", NOT, x -> x.move(2, 69));
        quietRefuses("move(0, 5)", NOT, x -> x.move(0, 5));
        freshRefuses("move(0, 5)", UNKNOWN, x -> x.move(0, 5));
        freshRefuses("move(0, 100), OUTSIDE too", UNKNOWN, x -> x.move(0, 100));
    }

    private static void undoKeepAndBack() {
        promise(12);
        quietRefuses("undo()", NOT, x -> x.undo());
        freshRefuses("undo()", NOT, x -> x.undo());
        promise(13);
        busyRefuses("keep(-1)", UNKNOWN, x -> x.keep(-1));
        busyRefuses("keep(2)", UNKNOWN, x -> x.keep(2));
        freshRefuses("keep(2)", UNKNOWN, x -> x.keep(2));
        promise(14);
        busyRefuses("back(-1)", UNKNOWN, x -> x.back(-1));
        busyRefuses("back(2)", UNKNOWN, x -> x.back(2));
        busyRefuses("back(1)", NOT, x -> x.back(1));
        quietRefuses("back(0)", NOT, x -> x.back(0));
        quietRefuses("back(1)", NOT, x -> x.back(1));
        quietRefuses("back(2), NOT too", UNKNOWN, x -> x.back(2));
        freshRefuses("back(0)", NOT, x -> x.back(0));
        freshRefuses("back(-1), NOT too", UNKNOWN, x -> x.back(-1));
    }

    // ---- foretold

    private static void plan() {
        promise(15);
        int[] noLights = {-2, 3};
        for (int l : noLights) {
            busyRefuses("plan(0, " + l + ")", UNKNOWN, x -> x.plan(0, l));
            busyRefuses("plan(1, " + l + ")", UNKNOWN, x -> x.plan(1, l));
            busyRefuses("plan(2, " + l + "), OUTSIDE too", UNKNOWN, x -> x.plan(2, l));
            busyRefuses("plan(-1, " + l + "), OUTSIDE too", UNKNOWN, x -> x.plan(-1, l));
        }
        busyRefuses("plan(2, NONE)", OUTSIDE, x -> x.plan(2, NONE));
        busyRefuses("plan(-1, NONE)", OUTSIDE, x -> x.plan(-1, NONE));
        busyRefuses("plan(2, 2)", OUTSIDE, x -> x.plan(2, 2));
        busyRefuses("plan(-1, 0)", OUTSIDE, x -> x.plan(-1, 0));
        freshRefuses("plan(0, 0)", UNKNOWN, x -> x.plan(0, 0));
        freshRefuses("plan(2, 0), OUTSIDE too", UNKNOWN, x -> x.plan(2, 0));
        freshRefuses("plan(2, NONE)", OUTSIDE, x -> x.plan(2, NONE));
    }

    private static void mostApartAndMachine() {
        promise(16);
        busyRefuses("most(-1)", OUTSIDE, x -> x.most(-1));
        busyRefuses("most(2)", OUTSIDE, x -> x.most(2));
        promise(17);
        busyRefuses("apart(-1, 0)", UNKNOWN, x -> x.apart(-1, 0));
        busyRefuses("apart(3, 0)", UNKNOWN, x -> x.apart(3, 0));
        busyRefuses("apart(0, -1)", UNKNOWN, x -> x.apart(0, -1));
        busyRefuses("apart(0, 3)", UNKNOWN, x -> x.apart(0, 3));
        busyRefuses("apart(3, 3)", UNKNOWN, x -> x.apart(3, 3));
        freshRefuses("apart(0, 0)", UNKNOWN, x -> x.apart(0, 0));
        promise(18);
        busyRefuses("machine(-1, 0)", OUTSIDE, x -> x.machine(-1, 0));
        busyRefuses("machine(100, 1)", OUTSIDE, x -> x.machine(100, 1));
        busyRefuses("machine(0, -1)", OUTSIDE, x -> x.machine(0, -1));
        busyRefuses("machine(99, 2)", OUTSIDE, x -> x.machine(99, 2));
        freshRefuses("machine(100, 0)", OUTSIDE, x -> x.machine(100, 0));
    }

    // ---- a watch

    private static void watchSeeAndLeft() {
        promise(19);
        busyRefuses("watch(-1, 0)", OUTSIDE, x -> x.watch(-1, 0));
        busyRefuses("watch(100, 0)", OUTSIDE, x -> x.watch(100, 0));
        busyRefuses("watch(0, -1)", OUTSIDE, x -> x.watch(0, -1));
        busyRefuses("watch(0, 2)", OUTSIDE, x -> x.watch(0, 2));
        quietRefuses("watch(100, 1)", OUTSIDE, x -> x.watch(100, 1));
        promise(20);
        busyRefuses("see(-1)", OUTSIDE, x -> x.see(-1));
        busyRefuses("see(2)", OUTSIDE, x -> x.see(2));
        quietRefuses("see(0)", NOT, x -> x.see(0));
        quietRefuses("see(1)", NOT, x -> x.see(1));
        quietRefuses("see(2), NOT too", OUTSIDE, x -> x.see(2));
        quietRefuses("see(-1), NOT too", OUTSIDE, x -> x.see(-1));
        freshRefuses("see(0)", NOT, x -> x.see(0));
        promise(21);
        busyRefuses("left(-1, 0)", OUTSIDE, x -> x.left(-1, 0));
        busyRefuses("left(2, 0)", OUTSIDE, x -> x.left(2, 0));
        busyRefuses("left(0, -1)", OUTSIDE, x -> x.left(0, -1));
        busyRefuses("left(1, -1)", OUTSIDE, x -> x.left(1, -1));
        quietRefuses("left(0, 0)", NOT, x -> x.left(0, 0));
        quietRefuses("left(1, 0)", NOT, x -> x.left(1, 0));
        quietRefuses("left(2, 0), NOT too", OUTSIDE, x -> x.left(2, 0));
        quietRefuses("left(-1, 0), NOT too", OUTSIDE, x -> x.left(-1, 0));
        quietRefuses("left(0, -1), NOT too", OUTSIDE, x -> x.left(0, -1));
        quietRefuses("left(1, -1), NOT too", OUTSIDE, x -> x.left(1, -1));
    }

    // ---- tapes

    private static void tapeAndDrop() {
        promise(22);
        busyRefuses("tape(-1)", UNKNOWN, x -> x.tape(-1));
        busyRefuses("tape(3)", UNKNOWN, x -> x.tape(3));
        promise(29);
        busyRefuses("drop(-1)", UNKNOWN, x -> x.drop(-1));
        busyRefuses("drop(3)", UNKNOWN, x -> x.drop(3));
        busyRefuses("drop(missing)", NULL, x -> x.drop(MISSING));
        freshRefuses("drop(2)", NULL, x -> x.drop(2));
    }

    private static void put() {
        promise(23);
        int[] noTapes = {-1, 3};
        for (int t : noTapes) {
            busyRefuses("put(" + t + ", 0, 1)", UNKNOWN, x -> x.put(t, 0, 1));
            busyRefuses("put(" + t + ", 2, 1), OUTSIDE too", UNKNOWN, x -> x.put(t, 2, 1));
            busyRefuses("put(" + t + ", 0, 10000), OUTSIDE too", UNKNOWN, x -> x.put(t, 0, 10000));
        }
        for (int t = 0; t < 3; t++) {
            int tape = t;
            busyRefuses("put(" + t + ", 2, 1), NULL or ROOM too", OUTSIDE, x -> x.put(tape, 2, 1));
            busyRefuses("put(" + t + ", -1, 1), NULL or ROOM too", OUTSIDE, x -> x.put(tape, -1, 1));
            busyRefuses("put(" + t + ", 0, 10000), NULL or ROOM too", OUTSIDE, x -> x.put(tape, 0, 10000));
            busyRefuses("put(" + t + ", 1, -10000), NULL or ROOM too", OUTSIDE, x -> x.put(tape, 1, -10000));
        }
        busyRefuses("put(missing, 0, 1)", NULL, x -> x.put(MISSING, 0, 1));
        busyRefuses("put(missing, 1, 1)", NULL, x -> x.put(MISSING, 1, 1));
        busyRefuses("put(full, 0, 1)", ROOM, x -> x.put(TWELVE, 0, 1));
        busyRefuses("put(full, 1, 1)", ROOM, x -> x.put(TWELVE, 1, 1));
    }

    private static void draw() {
        promise(24);
        int[] noTapes = {-1, 3};
        for (int t : noTapes) {
            busyRefuses("draw(" + t + ", 0)", UNKNOWN, x -> x.draw(t, 0));
            busyRefuses("draw(" + t + ", 2), OUTSIDE too", UNKNOWN, x -> x.draw(t, 2));
        }
        for (int t = 0; t < 3; t++) {
            int tape = t;
            busyRefuses("draw(" + t + ", 2), NULL or EMPTY too", OUTSIDE, x -> x.draw(tape, 2));
            busyRefuses("draw(" + t + ", -1), NULL or EMPTY too", OUTSIDE, x -> x.draw(tape, -1));
        }
        for (int e = 0; e < 2; e++) {
            int end = e;
            busyRefuses("draw(missing, " + e + ")", NULL, x -> x.draw(MISSING, end));
            busyRefuses("draw(bare, " + e + ")", EMPTY, x -> x.draw(BARE, end));
        }
    }

    private static void turn() {
        promise(25);
        int[] noTapes = {-1, 3};
        for (int t : noTapes) {
            busyRefuses("turn(" + t + ", 1)", UNKNOWN, x -> x.turn(t, 1));
            busyRefuses("turn(" + t + ", 100), OUTSIDE too", UNKNOWN, x -> x.turn(t, 100));
        }
        for (int t = 0; t < 3; t++) {
            int tape = t;
            busyRefuses("turn(" + t + ", 100), NULL or EMPTY too", OUTSIDE, x -> x.turn(tape, 100));
            busyRefuses("turn(" + t + ", -1), NULL or EMPTY too", OUTSIDE, x -> x.turn(tape, -1));
        }
        int[] turns = {0, 1, 99};
        for (int n : turns) {
            busyRefuses("turn(missing, " + n + ")", NULL, x -> x.turn(MISSING, n));
            busyRefuses("turn(bare, " + n + ")", EMPTY, x -> x.turn(BARE, n));
        }
        unchanged("turn(full, 0)", RefusalTest::busy, x -> x.turn(TWELVE, 0));
        unchanged("turn(full, 12)", RefusalTest::busy, x -> x.turn(TWELVE, 12));
        unchanged("turn(full, 96)", RefusalTest::busy, x -> x.turn(TWELVE, 96));
    }

    private static void find() {
        promise(26);
        int[] noTapes = {-1, 3};
        for (int t : noTapes) {
            busyRefuses("find(" + t + ", 0, 0)", UNKNOWN, x -> x.find(t, 0, 0));
            busyRefuses("find(" + t + ", 3, 0), OUTSIDE too", UNKNOWN, x -> x.find(t, 3, 0));
            busyRefuses("find(" + t + ", 2, 10000), OUTSIDE too", UNKNOWN, x -> x.find(t, 2, 10000));
        }
        for (int t = 0; t < 3; t++) {
            int tape = t;
            busyRefuses("find(" + t + ", 3, 0), NULL or EMPTY too", OUTSIDE, x -> x.find(tape, 3, 0));
            busyRefuses("find(" + t + ", -1, 0), NULL or EMPTY too", OUTSIDE, x -> x.find(tape, -1, 0));
            for (int w = 0; w < 3; w++) {
                int what = w;
                busyRefuses("find(" + t + ", " + w + ", 10000), NULL or EMPTY too", OUTSIDE, x -> x.find(tape, what, 10000));
                busyRefuses("find(" + t + ", " + w + ", -10000), NULL or EMPTY too", OUTSIDE, x -> x.find(tape, what, -10000));
            }
        }
        for (int w = 0; w < 3; w++) {
            int what = w;
            busyRefuses("find(missing, " + w + ", 0)", NULL, x -> x.find(MISSING, what, 0));
            busyRefuses("find(bare, " + w + ", 0)", w == 2 ? 0 : EMPTY, x -> x.find(BARE, what, 0));
        }
    }

    private static void strike() {
        promise(27);
        int[] noTapes = {-1, 3};
        for (int t : noTapes) {
            busyRefuses("strike(" + t + ", 1)", UNKNOWN, x -> x.strike(t, 1));
            busyRefuses("strike(" + t + ", 10000), OUTSIDE too", UNKNOWN, x -> x.strike(t, 10000));
        }
        for (int t = 0; t < 3; t++) {
            int tape = t;
            busyRefuses("strike(" + t + ", 10000), NULL too", OUTSIDE, x -> x.strike(tape, 10000));
            busyRefuses("strike(" + t + ", -10000), NULL too", OUTSIDE, x -> x.strike(tape, -10000));
        }
        busyRefuses("strike(missing, 1)", NULL, x -> x.strike(MISSING, 1));
        busyRefuses("strike(bare, 1)", 0, x -> x.strike(BARE, 1));
        busyRefuses("strike(full, 2), it has none such", 0, x -> x.strike(TWELVE, 2));
    }

    private static void load() {
        promise(28);
        int[] noTapes = {-1, 3};
        for (int t : noTapes) {
            busyRefuses("load(" + t + ", 0, 0)", UNKNOWN, x -> x.load(t, 0, 0));
            busyRefuses("load(" + t + ", 3, 0)", UNKNOWN, x -> x.load(t, 3, 0));
            busyRefuses("load(" + t + ", 0, 5), OUTSIDE too", UNKNOWN, x -> x.load(t, 0, 5));
        }
        for (int t = 0; t < 3; t++) {
            int tape = t;
            busyRefuses("load(" + t + ", 3, 0), NULL or ROOM too", UNKNOWN, x -> x.load(tape, 3, 0));
            busyRefuses("load(" + t + ", -1, 0), NULL or ROOM too", UNKNOWN, x -> x.load(tape, -1, 0));
            busyRefuses("load(" + t + ", 3, 5), OUTSIDE and NULL or ROOM too", UNKNOWN, x -> x.load(tape, 3, 5));
            busyRefuses("load(" + t + ", 2, 5), NULL or ROOM too", OUTSIDE, x -> x.load(tape, 2, 5));
            busyRefuses("load(" + t + ", 2, -1), NULL or ROOM too", OUTSIDE, x -> x.load(tape, 2, -1));
        }
        busyRefuses("load(missing, 0, 0)", NULL, x -> x.load(MISSING, 0, 0));
        busyRefuses("load(full, 2, 4)", ROOM, x -> x.load(TWELVE, 2, 4));
        quietRefuses("load(nine, 0, 3), four more", ROOM, x -> x.load(TWELVE, 0, 3));
        quietRefuses("load(nine, 0, 4)", OUTSIDE, x -> x.load(TWELVE, 0, 4));
        freshRefuses("load(0, 0, 0), NULL too", UNKNOWN, x -> x.load(0, 0, 0));
    }

    private static void count() {
        promise(30);
        busyRefuses("count(-1)", OUTSIDE, x -> x.count(-1));
        busyRefuses("count(11)", OUTSIDE, x -> x.count(11));
        freshRefuses("count(11)", OUTSIDE, x -> x.count(11));
    }

    // ---- far off, and what only answers

    /** "No call may ever throw": numbers so far off that a sum or a difference of them would go round. */
    private static void farNumbers() {
        sentence("Refused, and nothing changes");
        for (int n : FAR) {
            busyRefuses("write(" + n + ")", OUTSIDE, x -> x.write(n));
            busyRefuses("rhythm(" + n + ", 0)", UNKNOWN, x -> x.rhythm(n, 0));
            busyRefuses("rhythm(0, " + n + ")", OUTSIDE, x -> x.rhythm(0, n));
            busyRefuses("light(" + n + ", 0)", UNKNOWN, x -> x.light(n, 0));
            busyRefuses("light(0, " + n + ")", OUTSIDE, x -> x.light(0, n));
            busyRefuses("like(0, " + n + ", 0)", UNKNOWN, x -> x.like(0, n, 0));
            busyRefuses("like(" + n + ", 0, 0)", UNKNOWN, x -> x.like(n, 0, 0));
            busyRefuses("like(0, 0, " + n + ")", OUTSIDE, x -> x.like(0, 0, n));
            busyRefuses("lit(" + n + ", 0)", UNKNOWN, x -> x.lit(n, 0));
            busyRefuses("lit(0, " + n + ")", UNKNOWN, x -> x.lit(0, n));
            busyRefuses("dark(" + n + ")", UNKNOWN, x -> x.dark(n));
            busyRefuses("move(" + n + ", 0)", UNKNOWN, x -> x.move(n, 0));
            busyRefuses("move(0, " + n + ")", OUTSIDE, x -> x.move(0, n));
            busyRefuses("keep(" + n + ")", UNKNOWN, x -> x.keep(n));
            busyRefuses("back(" + n + ")", UNKNOWN, x -> x.back(n));
            busyRefuses("plan(" + n + ", 0)", OUTSIDE, x -> x.plan(n, 0));
            busyRefuses("plan(0, " + n + ")", UNKNOWN, x -> x.plan(0, n));
            busyRefuses("most(" + n + ")", OUTSIDE, x -> x.most(n));
            busyRefuses("apart(0, " + n + ")", UNKNOWN, x -> x.apart(0, n));
            busyRefuses("machine(" + n + ", 0)", OUTSIDE, x -> x.machine(n, 0));
            busyRefuses("machine(0, " + n + ")", OUTSIDE, x -> x.machine(0, n));
            farNumbersOfWatchAndTapes(n);
        }
    }

    private static void farNumbersOfWatchAndTapes(int n) {
        busyRefuses("watch(" + n + ", 0)", OUTSIDE, x -> x.watch(n, 0));
        busyRefuses("watch(0, " + n + ")", OUTSIDE, x -> x.watch(0, n));
        busyRefuses("see(" + n + ")", OUTSIDE, x -> x.see(n));
        busyRefuses("left(" + n + ", 0)", OUTSIDE, x -> x.left(n, 0));
        busyRefuses("left(1, " + n + ")", n < 0 ? OUTSIDE : NONE, x -> x.left(1, n));
        busyRefuses("tape(" + n + ")", UNKNOWN, x -> x.tape(n));
        busyRefuses("put(" + n + ", 0, 0)", UNKNOWN, x -> x.put(n, 0, 0));
        busyRefuses("put(1, " + n + ", 0)", OUTSIDE, x -> x.put(BARE, n, 0));
        busyRefuses("draw(" + n + ", 0)", UNKNOWN, x -> x.draw(n, 0));
        busyRefuses("draw(2, " + n + ")", OUTSIDE, x -> x.draw(TWELVE, n));
        busyRefuses("turn(" + n + ", 0)", UNKNOWN, x -> x.turn(n, 0));
        busyRefuses("turn(2, " + n + ")", OUTSIDE, x -> x.turn(TWELVE, n));
        busyRefuses("find(" + n + ", 0, 0)", UNKNOWN, x -> x.find(n, 0, 0));
        busyRefuses("find(2, " + n + ", 0)", OUTSIDE, x -> x.find(TWELVE, n, 0));
        busyRefuses("strike(" + n + ", 0)", UNKNOWN, x -> x.strike(n, 0));
        busyRefuses("load(" + n + ", 0, 0)", UNKNOWN, x -> x.load(n, 0, 0));
        busyRefuses("load(1, " + n + ", 0)", UNKNOWN, x -> x.load(BARE, n, 0));
        busyRefuses("load(1, 0, " + n + ")", OUTSIDE, x -> x.load(BARE, 0, n));
        busyRefuses("drop(" + n + ")", UNKNOWN, x -> x.drop(n));
        busyRefuses("count(" + n + ")", OUTSIDE, x -> x.count(n));
        if (n < -9999 || n > 9999) {
            busyRefuses("put(1, 0, " + n + ")", OUTSIDE, x -> x.put(BARE, 0, n));
            busyRefuses("find(2, 2, " + n + ")", OUTSIDE, x -> x.find(TWELVE, 2, n));
            busyRefuses("strike(2, " + n + ")", OUTSIDE, x -> x.strike(TWELVE, n));
        }
    }

    private static void whatOnlyAnswers() {
        sentence("FORETOLD (nothing changes)");
        for (int n = -2; n <= 12; n++) {
            int what = n;
            unchanged("plan(0, " + n + ")", RefusalTest::busy, x -> x.plan(0, what));
            unchanged("plan(1, " + n + ")", RefusalTest::busy, x -> x.plan(1, what));
            unchanged("most(" + n + ")", RefusalTest::busy, x -> x.most(what));
            unchanged("apart(0, " + n + ")", RefusalTest::busy, x -> x.apart(0, what));
            unchanged("machine(40, " + n + ")", RefusalTest::busy, x -> x.machine(40, what));
            unchanged("rhythm(2, " + n + ")", RefusalTest::busy, x -> x.rhythm(2, what));
            unchanged("light(1, " + n + ")", RefusalTest::busy, x -> x.light(1, what));
            unchanged("like(0, 1, " + n + ")", RefusalTest::busy, x -> x.like(0, 1, what));
            unchanged("left(1, " + n + ")", RefusalTest::busy, x -> x.left(1, what));
            unchanged("find(2, " + n + ", 4)", RefusalTest::busy, x -> x.find(TWELVE, what, 4));
            unchanged("count(" + n + ")", RefusalTest::busy, x -> x.count(what));
        }
    }
}
