/** What is done: lights lit, put out and moved, the last eight undone, and a coast that is kept. */
public final class DoneEdgeTest extends OfficeCheck {
    private static final String COAST = "rhythm fddd;rhythm ffdd;light 10;light 20;lit 1 1";

    public static void main(String[] args) {
        litByTheFirstAndTheLast();
        litAlready();
        darkAlready();
        movedToTheBounds();
        movedNowhere();
        undoOfNone();
        undoOfTheLastEight();
        undoOfEachKind();
        undoIsNotUndone();
        undoBehindRefusals();
        keepOfNone();
        keepAnew();
        keepIsNoChange();
        backWithoutKeep();
        backOfTwo();
        backCannotBeUndone();
        backBehindATextAgain();
        CHECK.end();
    }

    private static void lightDue(HarbourLights x, int light, int place, int rhythm) {
        due("light(" + light + ", 0)", x.light(light, 0), place);
        due("light(" + light + ", 1)", x.light(light, 1), rhythm);
    }

    private static void litByTheFirstAndTheLast() {
        sentence("A LIGHT is LIT by a RHYTHM: the one it was LIT by; NONE");
        HarbourLights x = told(repeated("rhythm fddd", 8) + ";" + repeated("light 5", 6));
        due("lit(5, 7)", x.lit(5, 7), NONE);
        due("lit(5, 0)", x.lit(5, 0), 7);
        due("lit(5, 7)", x.lit(5, 7), 0);
        due("lit(0, 0)", x.lit(0, 0), NONE);
        due("count(5)", x.count(5), 33);
        due("lit(6, 7)", x.lit(6, 7), UNKNOWN);
        due("lit(5, 8)", x.lit(5, 8), UNKNOWN);
        due("lit(-1, 7)", x.lit(-1, 7), UNKNOWN);
        due("lit(5, -1)", x.lit(5, -1), UNKNOWN);
        due("lit(1, -1): a dark one is not lit by NONE", x.lit(1, NONE), UNKNOWN);
        lightDue(x, 5, 5, 7);
    }

    private static void litAlready() {
        sentence("NOT: it is");
        HarbourLights x = told(COAST);
        due("lit(1, 1) as told", x.lit(1, 1), NOT);
        due("lit(1, 0)", x.lit(1, 0), 1);
        due("lit(1, 0)", x.lit(1, 0), NOT);
        x.dark(1);
        due("lit(1, 0) behind dark()", x.lit(1, 0), NONE);
        due("lit(1, 0)", x.lit(1, 0), NOT);
        HarbourLights twins = told("rhythm fddd;rhythm fddd;light 1;lit 0 0");
        due("lit(0, 1), a twin is another rhythm", twins.lit(0, 1), 0);
    }

    private static void darkAlready() {
        sentence("NOT: it is not LIT");
        HarbourLights x = told(COAST);
        due("dark(0) as told", x.dark(0), NOT);
        due("dark(1)", x.dark(1), 1);
        due("dark(1)", x.dark(1), NOT);
        due("lit(1, 0)", x.lit(1, 0), NONE);
        due("dark(1)", x.dark(1), 0);
        due("count(5)", x.count(5), 0);
        due("dark(2)", x.dark(2), UNKNOWN);
        due("dark(-1)", x.dark(-1), UNKNOWN);
    }

    private static void movedToTheBounds() {
        sentence("A LIGHT is at another PLACE: where it was");
        HarbourLights x = told(COAST);
        due("move(0, 0)", x.move(0, 0), 10);
        due("move(0, -1)", x.move(0, -1), OUTSIDE);
        lightDue(x, 0, 0, NONE);
        due("move(0, 99)", x.move(0, 99), 0);
        due("move(0, 100)", x.move(0, 100), OUTSIDE);
        lightDue(x, 0, 99, NONE);
        due("move(1, 99) to where another is", x.move(1, 99), 20);
        due("move(2, 5)", x.move(2, 5), UNKNOWN);
        due("move(-1, 5)", x.move(-1, 5), UNKNOWN);
        lightDue(x, 1, 99, 1);
    }

    private static void movedNowhere() {
        sentence("NOT: it is there");
        HarbourLights x = told(COAST);
        due("move(0, 10) as told", x.move(0, 10), NOT);
        due("move(0, 11)", x.move(0, 11), 10);
        due("move(0, 11)", x.move(0, 11), NOT);
        due("move(0, 10)", x.move(0, 10), 11);
        due("count(9)", x.count(9), 2);
    }

    private static void undoOfNone() {
        sentence("NOT: none");
        HarbourLights x = new HarbourLights();
        due("undo() at first", x.undo(), NOT);
        tell(x, COAST);
        due("undo() behind a text", x.undo(), NOT);
        lightDue(x, 1, 20, 1);
        x.dark(1);
        due("undo() of the only one", x.undo(), 0);
        due("undo()", x.undo(), NOT);
        lightDue(x, 1, 20, 1);
    }

    private static void undoOfTheLastEight() {
        sentence("the last 8 can be");
        for (int n = 1; n <= 20; n++) {
            HarbourLights x = told(COAST);
            for (int place = 40; place < 40 + n; place++) {
                x.move(0, place);
            }
            int can = Math.min(n, 8);
            due("count(9) behind " + n, x.count(9), can);
            for (int k = can - 1; k >= 0; k--) {
                due("undo()", x.undo(), k);
                due("count(9)", x.count(9), k);
            }
            due("undo() behind all of " + n, x.undo(), NOT);
            lightDue(x, 0, n <= 8 ? 10 : 40 + n - 9, NONE);
        }
    }

    private static void undoOfEachKind() {
        sentence("The latest lit(), dark(), move() is undone");
        HarbourLights x = told(COAST);
        x.lit(0, 0);
        x.lit(0, 1);
        x.dark(1);
        x.move(1, 99);
        x.move(0, 0);
        x.dark(0);
        due("undo() of dark()", x.undo(), 5);
        lightDue(x, 0, 0, 1);
        due("undo() of move()", x.undo(), 4);
        lightDue(x, 0, 10, 1);
        due("undo() of move()", x.undo(), 3);
        lightDue(x, 1, 20, NONE);
        due("undo() of dark()", x.undo(), 2);
        lightDue(x, 1, 20, 1);
        due("undo() of lit() over another", x.undo(), 1);
        lightDue(x, 0, 10, 0);
        due("undo() of lit()", x.undo(), 0);
        lightDue(x, 0, 10, NONE);
    }

    private static void undoIsNotUndone() {
        sentence("how many can be undone yet");
        HarbourLights x = told(COAST);
        for (int place = 1; place <= 9; place++) {
            x.move(0, place);
        }
        due("undo()", x.undo(), 7);
        due("undo()", x.undo(), 6);
        due("dark(1) in their stead", x.dark(1), 1);
        due("count(9)", x.count(9), 7);
        due("move(0, 50)", x.move(0, 50), 7);
        due("count(9)", x.count(9), 8);
        due("move(0, 51)", x.move(0, 51), 50);
        due("count(9)", x.count(9), 8);
        for (int k = 7; k >= 0; k--) {
            due("undo()", x.undo(), k);
        }
        due("undo()", x.undo(), NOT);
        lightDue(x, 0, 2, NONE);
        lightDue(x, 1, 20, 1);
    }

    private static void undoBehindRefusals() {
        sentence("Refused, and nothing changes");
        HarbourLights x = told(COAST);
        x.move(0, 30);
        x.lit(1, 1);
        x.lit(2, 0);
        x.dark(0);
        x.move(0, 30);
        x.move(0, 100);
        x.keep(2);
        x.back(1);
        x.undo();
        due("count(9)", x.count(9), 0);
        lightDue(x, 0, 10, NONE);
    }

    private static void keepOfNone() {
        sentence("LIGHTS as they are now are kept (k 0, 1): how many are LIT");
        HarbourLights x = new HarbourLights();
        due("keep(0) of no lights", x.keep(0), 0);
        due("back(0) of no lights", x.back(0), 0);
        HarbourLights y = told("rhythm fddd;" + repeated("light 5", 6));
        for (int l = 0; l < 6; l++) {
            due("keep(0)", y.keep(0), l);
            y.lit(l, 0);
        }
        due("keep(1) of all", y.keep(1), 6);
        due("back(0)", y.back(0), 5);
        due("back(1)", y.back(1), 6);
        int[] unknown = {-1, 2, LEAST_INT, GREATEST_INT};
        for (int k : unknown) {
            due("keep(" + k + ")", y.keep(k), UNKNOWN);
            due("back(" + k + ")", y.back(k), UNKNOWN);
        }
    }

    private static void keepAnew() {
        sentence("LIGHTS as they are now are kept");
        HarbourLights x = told(COAST);
        x.keep(0);
        x.move(0, 50);
        x.keep(0);
        x.move(0, 60);
        due("back(0)", x.back(0), 1);
        lightDue(x, 0, 50, NONE);
        x.dark(1);
        x.move(1, 3);
        due("back(0) again", x.back(0), 1);
        lightDue(x, 0, 50, NONE);
        lightDue(x, 1, 20, 1);
        sentence("NOT: nothing was kept");
        due("back(1): each k is kept for itself", x.back(1), NOT);
    }

    private static void keepIsNoChange() {
        sentence("What is done (lit(), dark(), move(), undo(), back(), not refused) ends it");
        HarbourLights x = told(COAST);
        x.move(0, 30);
        x.watch(20, 0);
        x.keep(0);
        due("count(7) behind keep()", x.count(7), 4);
        due("count(9) behind keep()", x.count(9), 1);
        due("undo() behind keep()", x.undo(), 0);
        lightDue(x, 0, 10, NONE);
        due("back(0): what was undone is as it was kept", x.back(0), 1);
        lightDue(x, 0, 30, NONE);
    }

    private static void backWithoutKeep() {
        sentence("NOT: nothing was kept since the last text");
        HarbourLights x = new HarbourLights();
        due("back(0) at first", x.back(0), NOT);
        due("back(1) at first", x.back(1), NOT);
        x.keep(0);
        x.keep(1);
        tell(x, COAST);
        due("back(0) behind a text", x.back(0), NOT);
        due("back(1) behind a text", x.back(1), NOT);
        x.keep(1);
        due("back(0)", x.back(0), NOT);
        spell(x, "buoy");
        due("office() with a fault", x.office(), NOT);
        due("fault()", x.fault(), 0);
        due("back(1) behind a text that was refused", x.back(1), 1);
    }

    private static void backOfTwo() {
        sentence("It is as it was kept");
        HarbourLights x = told(COAST);
        x.keep(0);
        x.lit(0, 1);
        x.lit(1, 0);
        x.move(1, 99);
        x.keep(1);
        x.dark(0);
        due("back(0)", x.back(0), 1);
        lightDue(x, 0, 10, NONE);
        lightDue(x, 1, 20, 1);
        due("back(1)", x.back(1), 2);
        lightDue(x, 0, 10, 1);
        lightDue(x, 1, 99, 0);
        x.move(1, 98);
        due("back(1): it is still kept", x.back(1), 2);
        lightDue(x, 1, 99, 0);
    }

    private static void backCannotBeUndone() {
        sentence("nothing can be undone");
        HarbourLights x = told(COAST);
        x.keep(0);
        x.move(0, 30);
        x.dark(1);
        due("count(9)", x.count(9), 2);
        due("back(1) is refused", x.back(1), NOT);
        due("count(9)", x.count(9), 2);
        due("back(0)", x.back(0), 1);
        due("count(9)", x.count(9), 0);
        due("undo()", x.undo(), NOT);
        x.move(0, 31);
        due("undo() of what was done since", x.undo(), 0);
        lightDue(x, 0, 10, NONE);
    }

    private static void backBehindATextAgain() {
        sentence("nothing is kept or can be undone");
        HarbourLights x = told(COAST);
        x.keep(0);
        x.keep(1);
        x.move(0, 30);
        tell(x, "sight 5");
        due("back(0)", x.back(0), NOT);
        due("back(1)", x.back(1), NOT);
        due("undo()", x.undo(), NOT);
        due("keep(0)", x.keep(0), 1);
        due("back(0)", x.back(0), 1);
        due("back(1)", x.back(1), NOT);
    }
}
