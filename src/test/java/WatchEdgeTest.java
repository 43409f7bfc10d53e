import java.util.function.Consumer;

/** Section 3, a WATCH: who is seen, what fits, a flash missed, what is left, and what ends it. */
public final class WatchEdgeTest extends OfficeCheck {
    private static final String COAST = "beats 3;rhythm fdd;rhythm ffd;light 0;light 20;lit 0 0";

    public static void main(String[] args) {
        pairsOfNone();
        pairsAtSight();
        pairsOfAll();
        beatsSeen();
        shiftsGoRound();
        beatsOutside();
        missedOnce();
        missedByEachPair();
        missedNotTold();
        flashWhereItIsDark();
        leftByTheShiftsOfTheBegin();
        leftOutside();
        watchAnew();
        endsByWhatIsDone();
        goesOnOtherwise();
        nobodyWatches();
        CHECK.end();
    }

    private static void leftDue(HarbourLights x, int... want) {
        for (int k = 0; k < want.length; k++) {
            due("left(1, " + k + ")", x.left(1, k), want[k]);
        }
        due("left(1, " + want.length + ")", x.left(1, want.length), NONE);
        due("count(7)", x.count(7), want.length);
    }

    private static void pairsOfNone() {
        sentence("NONE: there is none");
        HarbourLights[] coasts = {new HarbourLights(), told("rhythm fddd;light 5"), told("rhythm fddd;light 30;lit 0 0")};
        for (HarbourLights x : coasts) {
            due("watch(5, 0)", x.watch(5, 0), 0);
            due("left(0, 0)", x.left(0, 0), 0);
            leftDue(x);
            due("see(0)", x.see(0), 0);
            due("see(1)", x.see(1), 0);
            due("left(0, 0): somebody watches yet", x.left(0, 0), 0);
        }
    }

    private static void pairsAtSight() {
        sentence("all pairs of the first SET there");
        int[] sights = {1, 20, 49, 50, 99};
        for (int sight : sights) {
            HarbourLights x = told("sight " + sight + ";rhythm ffff;light 50;light 50;lit 1 0");
            for (int q = 0; q <= 99; q++) {
                boolean seen = Math.abs(q - 50) <= sight;
                due("watch(" + q + ", 0) by " + sight, x.watch(q, 0), seen ? 4 : 0);
                due("left(0, 0)", x.left(0, 0), seen ? 2 : 0);
            }
        }
        HarbourLights y = told(COAST);
        int[] noPlaces = {LEAST_INT, -1, 100, GREATEST_INT};
        for (int q : noPlaces) {
            due("watch(" + q + ", 0)", y.watch(q, 0), OUTSIDE);
        }
        int[] noMissing = {LEAST_INT, -1, 2, GREATEST_INT};
        for (int missing : noMissing) {
            due("watch(0, " + missing + ")", y.watch(0, missing), OUTSIDE);
            due("watch(100, " + missing + ")", y.watch(100, missing), OUTSIDE);
        }
        due("see(0): nobody watches", y.see(0), NOT);
    }

    private static void pairsOfAll() {
        sentence("each with all shifts 0 .. b less 1");
        for (int b = 3; b <= 8; b++) {
            HarbourLights x = told("beats " + b + ";rhythm f" + "d".repeat(b - 1) + ";" + repeated("light 5", 6) + ";"
                + "lit 0 0;lit 1 0;lit 2 0;lit 3 0;lit 4 0;lit 5 0");
            due("watch(5, 0)", x.watch(5, 0), 6 * b);
            due("left(0, 0)", x.left(0, 0), 63);
            int[] all = new int[6 * b];
            for (int k = 0; k < all.length; k++) {
                all[k] = k / b * 10 + k % b;
            }
            leftDue(x, all);
            due("see(1)", x.see(1), 6);
            leftDue(x, 1, 11, 21, 31, 41, 51);
        }
    }

    private static void beatsSeen() {
        sentence("a pair fits, if its RHYTHM has that BEAT at its shift");
        HarbourLights x = told("beats 3;rhythm fdd;rhythm ffd;light 0;light 20;lit 0 0;lit 1 1");
        due("watch(0, 0)", x.watch(0, 0), 6);
        due("see(1)", x.see(1), 3);
        leftDue(x, 1, 11, 12);
        due("see(0)", x.see(0), 2);
        leftDue(x, 2, 10);
        due("see(1)", x.see(1), 1);
        leftDue(x, 11);
        due("see(0)", x.see(0), 0);
        leftDue(x);
    }

    private static void shiftsGoRound() {
        sentence("the shift of a pair that fits is 1 more (b: 0)");
        for (int b = 3; b <= 8; b++) {
            HarbourLights x = told("beats " + b + ";rhythm " + "d".repeat(b - 1) + "f;light 5;lit 0 0");
            x.watch(5, 0);
            due("see(1)", x.see(1), 1);
            for (int n = 0; n < 3 * b; n++) {
                leftDue(x, n % b);
                due("see() of beat " + n, x.see(n % b == b - 1 ? 1 : 0), 1);
            }
            due("see() of what cannot be", x.see(1), 0);
        }
    }

    private static void beatsOutside() {
        sentence("A BEAT (0, 1) is seen");
        HarbourLights x = told(COAST);
        x.watch(0, 1);
        int[] outside = {LEAST_INT, -1, 2, GREATEST_INT};
        for (int beat : outside) {
            due("see(" + beat + ")", x.see(beat), OUTSIDE);
        }
        leftDue(x, 0, 1, 2);
    }

    private static void missedOnce() {
        sentence("for the first time since the WATCH began");
        HarbourLights x = told("beats 3;rhythm fff;light 0;lit 0 0");
        due("watch(0, 1)", x.watch(0, 1), 3);
        due("see(1)", x.see(1), 3);
        due("see(0), the first one", x.see(0), 3);
        leftDue(x, 2, 0, 1);
        for (int n = 0; n < 7; n++) {
            due("see(1) behind it", x.see(1), 3);
        }
        due("see(0), a second one", x.see(0), 0);
        due("watch(0, 1) anew", x.watch(0, 1), 3);
        due("see(0), the first one again", x.see(0), 3);
        due("see(0), a second one at once", x.see(0), 0);
    }

    private static void missedByEachPair() {
        sentence("has a flash there where it was dark");
        HarbourLights x = told("beats 3;rhythm ffd;light 0;lit 0 0");
        due("watch(0, 1)", x.watch(0, 1), 3);
        due("see(0): it fits that of shift 2, two have missed", x.see(0), 3);
        leftDue(x, 1, 2, 0);
        due("see(0): it fits that of shift 2, one misses its first", x.see(0), 2);
        leftDue(x, 0, 1);
        due("see(1)", x.see(1), 2);
        leftDue(x, 1, 2);
        due("see(0): one has missed already, one fits", x.see(0), 1);
        leftDue(x, 0);
    }

    private static void missedNotTold() {
        sentence("missing being told (1)");
        HarbourLights x = told("beats 3;rhythm fff;light 0;lit 0 0");
        x.watch(0, 0);
        due("see(0)", x.see(0), 0);
        x.watch(0, 1);
        due("see(0)", x.see(0), 3);
        x.watch(0, 0);
        due("see(0): the watch before is forgotten", x.see(0), 0);
    }

    private static void flashWhereItIsDark() {
        sentence("strike out what does not fit");
        HarbourLights x = told("beats 3;rhythm ddd;rhythm fdd;light 0;light 0;lit 0 0;lit 1 1");
        x.watch(0, 1);
        due("see(1): no flash comes of the dark", x.see(1), 1);
        leftDue(x, 11);
        due("left(0, 0)", x.left(0, 0), 2);
    }

    private static void leftByTheShiftsOfTheBegin() {
        sentence("by LIGHTS, then by shifts as they were at the begin");
        HarbourLights x = told("rhythm dddd;light 0;light 0;light 0;lit 0 0;lit 2 0");
        x.watch(0, 0);
        x.see(0);
        leftDue(x, 1, 2, 3, 0, 21, 22, 23, 20);
        x.see(0);
        leftDue(x, 2, 3, 0, 1, 22, 23, 20, 21);
        x.see(0);
        x.see(0);
        leftDue(x, 0, 1, 2, 3, 20, 21, 22, 23);
        due("left(0, 0)", x.left(0, 0), 5);
        due("left(0, MAX): k is not asked", x.left(0, GREATEST_INT), 5);
        due("left(1, MAX)", x.left(1, GREATEST_INT), NONE);
    }

    private static void leftOutside() {
        sentence("OUTSIDE: what, k below 0");
        HarbourLights x = told(COAST);
        x.watch(0, 0);
        int[] noWhats = {LEAST_INT, -1, 2, GREATEST_INT};
        for (int what : noWhats) {
            due("left(" + what + ", 0)", x.left(what, 0), OUTSIDE);
        }
        due("left(0, -1)", x.left(0, -1), OUTSIDE);
        due("left(1, -1)", x.left(1, -1), OUTSIDE);
        due("left(0, MIN)", x.left(0, LEAST_INT), OUTSIDE);
        due("left(1, MIN)", x.left(1, LEAST_INT), OUTSIDE);
        leftDue(x, 0, 1, 2);
    }

    private static void watchAnew() {
        sentence("A WATCH begins at q: how many pairs");
        HarbourLights x = told("beats 3;rhythm fdd;light 0;light 21;lit 0 0;lit 1 0");
        x.watch(0, 0);
        x.see(1);
        leftDue(x, 1);
        due("watch(21, 0)", x.watch(21, 0), 3);
        leftDue(x, 10, 11, 12);
        x.see(0);
        due("watch(100, 0)", x.watch(100, 0), OUTSIDE);
        leftDue(x, 12, 10);
        due("watch(0, 2)", x.watch(0, 2), OUTSIDE);
        leftDue(x, 12, 10);
    }

    /** A watch on a coast where something can be undone and one of two is kept. */
    private static HarbourLights watched() {
        HarbourLights x = told(COAST);
        x.keep(0);
        x.move(1, 21);
        x.watch(0, 0);
        due("see(0)", x.see(0), 2);
        return x;
    }

    private static void ends(String call, Consumer<HarbourLights> act) {
        HarbourLights x = watched();
        act.accept(x);
        due("see(0) behind " + call, x.see(0), NOT);
        due("left(0, 0) behind " + call, x.left(0, 0), NOT);
        due("left(1, 0) behind " + call, x.left(1, 0), NOT);
        due("count(7) behind " + call, x.count(7), 0);
        due("watch(0, 0) behind " + call, x.watch(0, 0) >= 0 ? 1 : 0, 1);
        due("left(0, 0) of a new one", x.left(0, 0) >= 0 ? 1 : 0, 1);
    }

    private static void endsByWhatIsDone() {
        sentence("What is done (lit(), dark(), move(), undo(), back(), not refused) ends it: nobody watches");
        ends("lit(1, 1)", x -> x.lit(1, 1));
        ends("lit(0, 1)", x -> x.lit(0, 1));
        ends("dark(0)", x -> x.dark(0));
        ends("move(0, 1)", x -> x.move(0, 1));
        ends("move(1, 99), of one that is not seen", x -> x.move(1, 99));
        ends("undo()", x -> x.undo());
        ends("back(0)", x -> x.back(0));
        ends("lit(1, 1) and undo()", x -> {
            x.lit(1, 1);
            x.undo();
        });
        sentence("Behind them nobody watches");
        ends("office()", x -> {
            spell(x, "sight 20");
            x.office();
        });
    }

    private static void goesOn(String call, Consumer<HarbourLights> act) {
        HarbourLights x = watched();
        act.accept(x);
        due("count(7) behind " + call, x.count(7), 2);
        due("left(1, 0) behind " + call, x.left(1, 0), 2);
        due("left(1, 1) behind " + call, x.left(1, 1), 0);
        due("see(1) behind " + call, x.see(1), 1);
    }

    private static void goesOnOtherwise() {
        sentence("not refused");
        goesOn("nothing", x -> { });
        goesOn("lit(0, 0): it is", x -> x.lit(0, 0));
        goesOn("lit(2, 0)", x -> x.lit(2, 0));
        goesOn("lit(1, 2)", x -> x.lit(1, 2));
        goesOn("dark(1): it is not lit", x -> x.dark(1));
        goesOn("dark(2)", x -> x.dark(2));
        goesOn("move(1, 21): it is there", x -> x.move(1, 21));
        goesOn("move(1, 100)", x -> x.move(1, 100));
        goesOn("move(2, 5)", x -> x.move(2, 5));
        goesOn("back(1): nothing was kept", x -> x.back(1));
        goesOn("back(2)", x -> x.back(2));
        goesOn("keep(1)", x -> x.keep(1));
        goesOn("keep(2)", x -> x.keep(2));
        goesOn("office() of nothing", x -> x.office());
        goesOn("office() with a fault", x -> {
            spell(x, "beats 3;buoy");
            x.fault();
            x.office();
            x.erase();
        });
        goesOn("what is foretold", x -> {
            x.plan(0, NONE);
            x.most(1);
            x.apart(0, 1);
            x.machine(50, 0);
            x.machine(0, 1);
        });
        goesOn("tapes", x -> {
            x.tape(0);
            x.load(0, 0, 0);
            x.turn(0, 5);
            x.strike(0, 0);
            x.draw(0, 0);
            x.drop(0);
        });
        HarbourLights none = told(COAST);
        none.watch(0, 0);
        due("undo() of none", none.undo(), NOT);
        due("see(0) behind undo() of none", none.see(0), 2);
    }

    private static void nobodyWatches() {
        sentence("NOT: nobody watches");
        HarbourLights x = new HarbourLights();
        due("see(0) at first", x.see(0), NOT);
        due("see(1) at first", x.see(1), NOT);
        due("left(0, 0) at first", x.left(0, 0), NOT);
        due("left(1, 0) at first", x.left(1, 0), NOT);
        due("count(7) at first", x.count(7), 0);
        due("see(2): OUTSIDE goes ahead", x.see(2), OUTSIDE);
        due("left(2, 0): OUTSIDE goes ahead", x.left(2, 0), OUTSIDE);
        due("left(0, -1): OUTSIDE goes ahead", x.left(0, -1), OUTSIDE);
    }
}
