/** Section 3, what is foretold: PLAN, MOST, APART and the MACHINE, none, the first of several, their bounds. */
public final class ForetoldEdgeTest extends OfficeCheck {
    /** By four of four beats, each is LIKE itself alone; WEAK are 0-1, 1-2, 1-3, 2-4, 3-4 and 4-5. */
    private static final String SIX = "window 4;rhythm dddd;rhythm fddd;rhythm ffdd;rhythm fdfd;rhythm fffd;rhythm ffff";
    /** All unlike ones of five beats, by five. */
    private static final String EIGHT = "beats 5;window 5;rhythm ddddd;rhythm fdddd;rhythm ffddd;rhythm fdfdd;"
        + "rhythm fffdd;rhythm ffdfd;rhythm ffffd;rhythm fffff";

    public static void main(String[] args) {
        planWithoutLights();
        planWithoutRhythms();
        planOfOne();
        planAtSight();
        planOfSix();
        planOfTheWeak();
        planWithTheFewest();
        planThatIsFirst();
        planWhateverIsLit();
        mostOfNone();
        mostOfAll();
        mostOfTheLeastNumber();
        apartAtTheBounds();
        apartOfUnknown();
        machineOfNone();
        machineAtSight();
        machineStates();
        machineNamedAtOnce();
        machineNamedBehindBeats();
        machineNamesNone();
        machineForgetsWhatItFound();
        machineOutside();
        CHECK.end();
    }

    private static void planDue(HarbourLights x, int strict, int fewest, int... want) {
        due("plan(" + strict + ", NONE)", x.plan(strict, NONE), fewest);
        for (int l = 0; l < want.length; l++) {
            due("plan(" + strict + ", " + l + ")", x.plan(strict, l), want[l]);
        }
        due("plan(" + strict + ", " + want.length + ")", x.plan(strict, want.length), UNKNOWN);
    }

    private static void planWithoutLights() {
        sentence("0: no LIGHTS");
        planDue(new HarbourLights(), 0, 0);
        planDue(new HarbourLights(), 1, 0);
        planDue(told("rhythm fddd"), 0, 0);
        planDue(told("rhythm fddd"), 1, 0);
    }

    private static void planWithoutRhythms() {
        sentence("NONE: there is none");
        planDue(told("light 5"), 0, NONE, NONE);
        planDue(told("light 5;light 99"), 1, NONE, NONE, NONE);
    }

    private static void planOfOne() {
        sentence("a RHYTHM of THE BOOK for each LIGHT");
        planDue(told("rhythm fddd;light 5"), 0, 1, 0);
        planDue(told("rhythm fddd;light 5"), 1, 1, 0);
        planDue(told("rhythm fddd;" + repeated("light 5", 2)), 0, NONE, NONE, NONE);
        planDue(told("rhythm fddd;rhythm dfdd;" + repeated("light 5", 2)), 0, NONE, NONE, NONE);
        HarbourLights x = told("rhythm fddd;light 5");
        due("plan(0, -2)", x.plan(0, -2), UNKNOWN);
        due("plan(0, MIN)", x.plan(0, LEAST_INT), UNKNOWN);
        due("plan(0, MAX)", x.plan(0, GREATEST_INT), UNKNOWN);
        due("plan(-1, 0)", x.plan(-1, 0), OUTSIDE);
        due("plan(2, 0)", x.plan(2, 0), OUTSIDE);
        due("plan(-1, NONE)", x.plan(-1, NONE), OUTSIDE);
        due("plan(2, NONE)", x.plan(2, NONE), OUTSIDE);
    }

    private static void planAtSight() {
        sentence("so that no NEIGHBOURS have such ones");
        for (int apart = 0; apart <= 40; apart++) {
            HarbourLights x = told("rhythm ffff;rhythm dddd;light 40;light " + (40 - apart) + ";light " + (41 + apart));
            if (apart <= 9) {
                planDue(x, 0, NONE, NONE, NONE, NONE);
            } else if (apart <= 19) {
                planDue(x, 0, 2, 0, 1, 1);
            } else if (apart == 20) {
                planDue(x, 0, 2, 0, 1, 0);
            } else {
                planDue(x, 0, 1, 0, 0, 0);
            }
        }
    }

    private static void planOfSix() {
        sentence("by LIKE (strict 0): no NEIGHBOURS have such ones");
        HarbourLights x = told(SIX + ";" + repeated("light 5", 6));
        planDue(x, 0, 6, 0, 1, 2, 3, 4, 5);
        HarbourLights five = told("window 4;rhythm dddd;rhythm fddd;rhythm ffdd;rhythm fdfd;rhythm fffd;" + repeated("light 5", 6));
        planDue(five, 0, NONE, NONE, NONE, NONE, NONE, NONE, NONE);
        five.move(5, 26);
        planDue(five, 0, 5, 0, 1, 2, 3, 4, 0);
        HarbourLights last = told("window 4;rhythm fddd;rhythm dfdd;rhythm ddfd;rhythm dddf;rhythm fdfd;rhythm dfdf;rhythm ffff;rhythm dddd;"
            + repeated("light 5", 4));
        planDue(last, 0, 4, 0, 4, 6, 7);
    }

    private static void planOfTheWeak() {
        sentence("or by WEAK (1)");
        HarbourLights x = told(SIX + ";" + repeated("light 5", 4));
        planDue(x, 0, 4, 0, 1, 2, 3);
        planDue(x, 1, 4, 0, 2, 3, 5);
        HarbourLights five = told(SIX + ";" + repeated("light 5", 5));
        planDue(five, 0, 5, 0, 1, 2, 3, 4);
        planDue(five, 1, NONE, NONE, NONE, NONE, NONE, NONE);
    }

    /** The first light could have rhythm 0, but then two more would be needed for the others. */
    private static void planWithTheFewest() {
        sentence("of these the one with the fewest unlike RHYTHMS");
        HarbourLights x = told("rhythm ffdd;rhythm ffff;rhythm dddd;light 0;light 50;light 50");
        planDue(x, 0, 2, 1, 1, 2);
        HarbourLights last = told("rhythm ffdd;rhythm ffff;rhythm dddd;light 50;light 50;light 0");
        planDue(last, 0, 2, 1, 2, 1);
        HarbourLights twins = told("rhythm ffff;rhythm ffff;rhythm dddd;light 0;light 0;light 50");
        planDue(twins, 0, 2, 0, 2, 0);
    }

    private static void planThatIsFirst() {
        sentence("then the first (LIGHT by LIGHT, by numbers)");
        HarbourLights x = told(SIX + ";light 0;light 50;light 20;light 99;light 70");
        planDue(x, 0, 2, 0, 0, 1, 0, 1);
        planDue(x, 1, 2, 0, 0, 2, 0, 2);
    }

    private static void planWhateverIsLit() {
        sentence("whatever it is LIT by; FORETOLD (nothing changes)");
        HarbourLights x = told("rhythm ffff;rhythm dddd;light 0;light 10;lit 0 1;lit 1 1");
        planDue(x, 0, 2, 0, 1);
        due("light(0, 1)", x.light(0, 1), 1);
        due("light(1, 1)", x.light(1, 1), 1);
        due("count(9)", x.count(9), 0);
        x.dark(0);
        planDue(x, 0, 2, 0, 1);
        x.move(0, 99);
        planDue(x, 0, 1, 0, 0);
    }

    private static void mostOfNone() {
        sentence("MOST: a set of RHYTHMS (bits)");
        HarbourLights x = new HarbourLights();
        due("most(0) of none", x.most(0), 0);
        due("most(1) of none", x.most(1), 0);
        due("most(0) of one", told("rhythm fddd").most(0), 1);
        due("most(1) of one", told("rhythm fddd").most(1), 1);
        int[] outside = {LEAST_INT, -1, 2, GREATEST_INT};
        for (int strict : outside) {
            due("most(" + strict + ")", x.most(strict), OUTSIDE);
        }
    }

    private static void mostOfAll() {
        sentence("no two unlike ones of it such: of the most");
        due("most(0) of eight", told(EIGHT).most(0), 255);
        due("most(0) of six", told(SIX).most(0), 63);
        due("most(1) of six", told(SIX).most(1), 45);
    }

    private static void mostOfTheLeastNumber() {
        sentence("then of the least number");
        due("most(0) of twins", told(repeated("rhythm fddd", 8)).most(0), 1);
        HarbourLights x = told("rhythm ffff;rhythm ffff;rhythm dddd;rhythm dddd");
        due("most(0)", x.most(0), 5);
        due("most(1)", x.most(1), 5);
        due("most(0): 0 is like the others", told("rhythm ffdd;rhythm ffff;rhythm dddd").most(0), 6);
        due("most(0): 2 is like the others", told("rhythm ffff;rhythm dddd;rhythm ffdd").most(0), 3);
        due("most(1): all are weak", told("rhythm fddd;rhythm ffff;rhythm ffdd").most(1), 1);
    }

    private static void apartAtTheBounds() {
        sentence("the least WINDOW (1 .. b) by which they would not be LIKE; none");
        for (int b = 3; b <= 8; b++) {
            String dark = "d".repeat(b);
            HarbourLights x = told("beats " + b + ";rhythm " + dark + ";rhythm " + "f".repeat(b) + ";rhythm f" + dark.substring(1)
                + ";rhythm " + dark.substring(1) + "f");
            due("apart(0, 1) of " + b, x.apart(0, 1), 1);
            due("apart(0, 2) of " + b, x.apart(0, 2), b);
            due("apart(2, 0) of " + b, x.apart(2, 0), b);
            due("apart(1, 2) of " + b, x.apart(1, 2), 2);
            due("apart(2, 3) of " + b, x.apart(2, 3), NONE);
            due("apart(2, 2) of " + b, x.apart(2, 2), NONE);
            tell(x, "window " + b);
            due("apart(0, 1), whatever the window is", x.apart(0, 1), 1);
            due("apart(0, 2), whatever the window is", x.apart(0, 2), b);
        }
    }

    private static void apartOfUnknown() {
        sentence("UNKNOWN (no such RHYTHM)");
        HarbourLights x = told("rhythm fddd;rhythm ffff");
        int[] unknown = {LEAST_INT, -1, 2, GREATEST_INT};
        for (int r : unknown) {
            due("apart(" + r + ", 0)", x.apart(r, 0), UNKNOWN);
            due("apart(1, " + r + ")", x.apart(1, r), UNKNOWN);
            due("apart(" + r + ", " + r + ")", x.apart(r, r), UNKNOWN);
        }
    }

    private static void machineOfNone() {
        sentence("0, if it is empty; none (also if the first one is empty)");
        HarbourLights[] coasts = {new HarbourLights(), told("rhythm fddd"), told("rhythm fddd;light 5"),
            told("rhythm fddd;light 30;lit 0 0")};
        for (HarbourLights x : coasts) {
            due("machine(5, 0)", x.machine(5, 0), 0);
            due("machine(5, 1)", x.machine(5, 1), NONE);
        }
    }

    private static void machineAtSight() {
        sentence("all LIGHTS that are LIT, no more than SIGHT from q");
        int[] sights = {1, 20, 49, 50, 99};
        for (int sight : sights) {
            HarbourLights x = told("sight " + sight + ";rhythm ffff;light 50;light 50;lit 1 0");
            for (int q = 0; q <= 99; q++) {
                boolean seen = Math.abs(q - 50) <= sight;
                due("machine(" + q + ", 0) by " + sight, x.machine(q, 0), seen ? 1 : 0);
                due("machine(" + q + ", 1) by " + sight, x.machine(q, 1), seen ? 0 : NONE);
            }
        }
    }

    /** One flash: the first set, those behind 1 .. b-2 dark beats, and one for each shift alone. */
    private static void machineStates() {
        sentence("STATES: how many unlike SETS that are not empty come of the first one so, the first one too");
        for (int b = 3; b <= 8; b++) {
            HarbourLights x = told("beats " + b + ";rhythm f" + "d".repeat(b - 1) + ";rhythm " + "d".repeat(b) + ";rhythm " + "f".repeat(b)
                + ";light 5;light 6;light 7;lit 0 0");
            due("machine(5, 0) of one flash in " + b, x.machine(5, 0), 2 * b - 1);
            x.lit(0, 1);
            due("machine(5, 0) of a dark one", x.machine(5, 0), 1);
            x.lit(1, 2);
            due("machine(5, 0) of a dark one and a steady one", x.machine(5, 0), 3);
            x.lit(2, 2);
            due("machine(5, 0) with a twin", x.machine(5, 0), 3);
        }
    }

    private static void machineNamedAtOnce() {
        sentence("NAMED: the fewest n (0 .. 40)");
        HarbourLights x = told("beats 3;rhythm fdd;rhythm fff;light 5;light 26;light 47;lit 0 0;lit 1 1;lit 2 0");
        due("machine(5, 1): one alone is seen", x.machine(5, 1), 0);
        due("machine(6, 1): two are seen", x.machine(6, 1), 2);
        due("machine(27, 1): two others", x.machine(27, 1), 2);
        due("machine(67, 1): one alone is seen", x.machine(67, 1), 0);
        due("machine(68, 1): none is seen", x.machine(68, 1), NONE);
        HarbourLights one = told("beats 3;rhythm fff;rhythm ddd;light 5;light 5;lit 0 0;lit 1 1");
        due("machine(5, 1) behind one beat", one.machine(5, 1), 1);
    }

    private static void machineNamedBehindBeats() {
        sentence("all SETS that come of it by n BEATS, and are not empty, have pairs of one LIGHT alone");
        for (int b = 3; b <= 8; b++) {
            HarbourLights x = told("beats " + b + ";rhythm f" + "d".repeat(b - 1) + ";rhythm " + "d".repeat(b) + ";light 5;light 5;lit 0 0;lit 1 1");
            due("machine(5, 1): behind all of " + b, x.machine(5, 1), b);
        }
    }

    private static void machineNamesNone() {
        sentence("none");
        HarbourLights x = told("beats 8;rhythm fddddddd;rhythm ddddfddd;light 5;light 5;lit 0 0;lit 1 0");
        due("machine(5, 1) of one rhythm", x.machine(5, 1), NONE);
        x.lit(1, 1);
        due("machine(5, 1) of one that is turned", x.machine(5, 1), NONE);
        due("machine(5, 0) of one that is turned", x.machine(5, 0), 15);
        x.dark(1);
        due("machine(5, 1) of one alone", x.machine(5, 1), 0);
    }

    /**
     * What an earlier call found of another coast has no part in what a later one finds. One flash and a
     * dark one: those behind 0 .. b-1 dark beats, the dark one alone, and one for each shift behind a flash.
     */
    private static void machineForgetsWhatItFound() {
        sentence("STATES; NAMED: all SETS that come of the first one");
        for (int b = 3; b <= 8; b++) {
            String text = "beats " + b + ";rhythm f" + "d".repeat(b - 1) + ";rhythm " + "d".repeat(b) + ";light 5;light 5;light 5;"
                + "lit 0 0;lit 1 0;lit 2 1";
            HarbourLights x = told(text);
            due("machine(5, 0) of twins and a dark one", x.machine(5, 0), 2 * b + 1);
            due("machine(5, 1) of twins and a dark one", x.machine(5, 1), NONE);
            due("machine(5, 0) again", x.machine(5, 0), 2 * b + 1);
            x.dark(1);
            due("machine(5, 1) without the twin", x.machine(5, 1), b);
            due("machine(5, 0) without the twin", x.machine(5, 0), 2 * b + 1);
            x.lit(1, 0);
            due("machine(5, 1) with the twin again", x.machine(5, 1), NONE);
        }
    }

    private static void machineOutside() {
        sentence("MACHINE at q (0 .. 99): STATES (what 0), NAMED (1)");
        HarbourLights x = told("sight 99;rhythm ffff;light 5;lit 0 0");
        due("machine(0, 0)", x.machine(0, 0), 1);
        due("machine(99, 0)", x.machine(99, 0), 1);
        int[] noPlaces = {LEAST_INT, -1, 100, GREATEST_INT};
        for (int q : noPlaces) {
            due("machine(" + q + ", 0)", x.machine(q, 0), OUTSIDE);
            due("machine(" + q + ", 1)", x.machine(q, 1), OUTSIDE);
        }
        int[] noWhats = {LEAST_INT, -1, 2, GREATEST_INT};
        for (int what : noWhats) {
            due("machine(5, " + what + ")", x.machine(5, what), OUTSIDE);
            due("machine(100, " + what + ")", x.machine(100, what), OUTSIDE);
        }
    }
}
