/** Section 2: ROWS that go round, LIKE and WEAK, TURNED, LEAST and REPEATS, NEIGHBOURS and CLASHES. */
public final class RhythmEdgeTest extends OfficeCheck {
    public static void main(String[] args) {
        rowsGoRound();
        rowsAtEachShift();
        wholeWindows();
        oneAndTheSame();
        weakByOneFlash();
        weakInSmallWindows();
        turnedToTheLeast();
        leastOfSeveral();
        repeatsAboveNone();
        flashesCounted();
        neighboursAtSight();
        neighboursOfAll();
        clashOfLitNeighbours();
        clashOfAll();
        CHECK.end();
    }

    private static String oneFlash(int beats, int at) {
        return "d".repeat(at) + "f" + "d".repeat(beats - 1 - at);
    }

    private static void rowsGoRound() {
        sentence("w BEATS from the k-th on, round and round");
        for (int b = 3; b <= 8; b++) {
            String ends = "f" + "d".repeat(b - 2) + "f";
            HarbourLights x = told("beats " + b + ";rhythm " + ends + ";rhythm " + "f".repeat(b));
            due("like(0, 1, 0) of " + ends + " by its last row alone", x.like(0, 1, 0), 1);
            due("like(1, 0, 0) of " + ends, x.like(1, 0, 0), 1);
            tell(x, "window 3");
            due("like(0, 1, 0) of " + ends + " by 3", x.like(0, 1, 0), 0);
            due("apart(0, 1) of " + ends, x.apart(0, 1), 3);
        }
        HarbourLights y = told("window 3;rhythm fddf;rhythm dffd;rhythm ddff");
        due("like(0, 1, 0)", y.like(0, 1, 0), 1);
        due("like(1, 2, 0)", y.like(1, 2, 0), 1);
    }

    private static void rowsAtEachShift() {
        sentence("A ROW of a RHYTHM at a shift k (0 .. b less 1)");
        for (int b = 3; b <= 8; b++) {
            for (int at = 0; at < b; at++) {
                HarbourLights x = told("beats " + b + ";window " + b + ";rhythm " + oneFlash(b, 0) + ";rhythm " + oneFlash(b, at));
                due("like(0, 1, 0), " + at + " of " + b, x.like(0, 1, 0), 1);
                due("like(1, 0, 0), " + at + " of " + b, x.like(1, 0, 0), 1);
                due("apart(0, 1), " + at + " of " + b, x.apart(0, 1), NONE);
            }
        }
    }

    private static void wholeWindows() {
        sentence("LIKE, if a ROW of the one is the same as a ROW of the other");
        for (int b = 3; b <= 8; b++) {
            HarbourLights x = told("beats " + b + ";rhythm " + oneFlash(b, 0) + ";rhythm " + "d".repeat(b));
            for (int w = 2; w <= b; w++) {
                tell(x, "window " + w);
                due("like(0, 1, 0) by " + w + " of " + b, x.like(0, 1, 0), w < b ? 1 : 0);
                due("like(0, 1, 1) by " + w + " of " + b, x.like(0, 1, 1), 1);
            }
        }
    }

    private static void oneAndTheSame() {
        sentence("Two RHYTHMS (or one and the same)");
        HarbourLights x = told("beats 6;window 6;rhythm fdfddd;rhythm dddddd;rhythm ffffff;rhythm fdfddd");
        for (int r = 0; r < 4; r++) {
            due("like(" + r + ", " + r + ", 0)", x.like(r, r, 0), 1);
            due("like(" + r + ", " + r + ", 1)", x.like(r, r, 1), 1);
            due("apart(" + r + ", " + r + ")", x.apart(r, r), NONE);
        }
        due("like(0, 3, 0), a twin", x.like(0, 3, 0), 1);
        due("apart(0, 3), a twin", x.apart(0, 3), NONE);
    }

    /** By three of three beats, what turns into one another has as many flashes. */
    private static void weakByOneFlash() {
        sentence("a ROW of either, none or one flash of it being dark instead");
        HarbourLights x = told("beats 3;window 3;rhythm ddd;rhythm fdd;rhythm ffd;rhythm fff");
        for (int i = 0; i < 4; i++) {
            for (int j = 0; j < 4; j++) {
                due("like(" + i + ", " + j + ", 0)", x.like(i, j, 0), i == j ? 1 : 0);
                due("like(" + i + ", " + j + ", 1)", x.like(i, j, 1), Math.abs(i - j) <= 1 ? 1 : 0);
            }
        }
        HarbourLights moved = told("window 4;rhythm ffdd;rhythm fdfd;rhythm fddd;rhythm fffd");
        due("like(0, 1, 1): as many flashes, but none lost", moved.like(0, 1, 1), 0);
        due("like(1, 0, 1)", moved.like(1, 0, 1), 0);
        due("like(0, 2, 1)", moved.like(0, 2, 1), 1);
        due("like(2, 1, 1)", moved.like(2, 1, 1), 1);
        due("like(1, 3, 1)", moved.like(1, 3, 1), 1);
        due("like(2, 3, 1): two lost", moved.like(2, 3, 1), 0);
    }

    private static void weakInSmallWindows() {
        sentence("is the same as a ROW of the other one");
        HarbourLights x = told("rhythm ffff;rhythm dddd;rhythm fddd;rhythm fffd");
        due("like(0, 1, 1): both flashes lost", x.like(0, 1, 1), 0);
        due("like(1, 0, 1)", x.like(1, 0, 1), 0);
        due("like(0, 2, 0)", x.like(0, 2, 0), 0);
        due("like(0, 2, 1)", x.like(0, 2, 1), 1);
        due("like(2, 0, 1)", x.like(2, 0, 1), 1);
        due("like(1, 3, 0)", x.like(1, 3, 0), 0);
        due("like(1, 3, 1)", x.like(1, 3, 1), 1);
        due("like(3, 1, 1)", x.like(3, 1, 1), 1);
        tell(x, "window 3");
        due("like(0, 2, 1) by 3", x.like(0, 2, 1), 0);
        due("like(1, 3, 1) by 3", x.like(1, 3, 1), 0);
    }

    private static void turnedToTheLeast() {
        sentence("TURNED by k: its BEATS from the k-th on, round");
        for (int b = 3; b <= 8; b++) {
            for (int at = 0; at < b; at++) {
                HarbourLights x = told("beats " + b + ";rhythm " + oneFlash(b, at));
                due("rhythm(0, 0)", x.rhythm(0, 0), 1 << b - 1 - at);
                due("rhythm(0, 1)", x.rhythm(0, 1), 1);
                due("rhythm(0, 2)", x.rhythm(0, 2), b);
                due("rhythm(0, 4)", x.rhythm(0, 4), at == b - 1 ? 0 : at + 1);
            }
        }
    }

    private static void leastOfSeveral() {
        sentence("by how many it is TURNED first so that it is LEAST");
        HarbourLights x = told("beats 8;rhythm fdddfddd;rhythm dddfdddf;rhythm fdfdfdfd;rhythm dfdfdfdf;rhythm ffdffddd");
        int[][] want = {{136, 17, 4, 2, 1}, {17, 17, 4, 2, 0}, {170, 85, 2, 4, 1}, {85, 85, 2, 4, 0}, {216, 27, 8, 4, 5}};
        for (int r = 0; r < want.length; r++) {
            for (int what = 0; what < 5; what++) {
                due("rhythm(" + r + ", " + what + ")", x.rhythm(r, what), want[r][what]);
            }
        }
    }

    private static void repeatsAboveNone() {
        sentence("REPEATS: the least k above 0, by which TURNED it is the same");
        for (int b = 3; b <= 8; b++) {
            HarbourLights x = told("beats " + b + ";rhythm " + "d".repeat(b) + ";rhythm " + "f".repeat(b) + ";rhythm f" + "d".repeat(b - 1));
            due("rhythm(0, 2) of " + b, x.rhythm(0, 2), 1);
            due("rhythm(1, 2) of " + b, x.rhythm(1, 2), 1);
            due("rhythm(2, 2) of " + b, x.rhythm(2, 2), b);
            due("rhythm(0, 4) of " + b, x.rhythm(0, 4), 0);
            due("rhythm(1, 1) of " + b, x.rhythm(1, 1), (1 << b) - 1);
        }
        due("rhythm(0, 2)", told("rhythm fdfd").rhythm(0, 2), 2);
        HarbourLights six = told("beats 6;rhythm fdfdfd;rhythm ffdffd;rhythm fdfddd");
        due("rhythm(0, 2)", six.rhythm(0, 2), 2);
        due("rhythm(1, 2)", six.rhythm(1, 2), 3);
        due("rhythm(2, 2)", six.rhythm(2, 2), 6);
    }

    private static void flashesCounted() {
        sentence("flashes (3)");
        HarbourLights x = told("beats 8;rhythm dddddddd;rhythm dddddddf;rhythm fddddddf;rhythm ffffffff");
        int[] want = {0, 1, 2, 8};
        for (int r = 0; r < want.length; r++) {
            due("rhythm(" + r + ", 3)", x.rhythm(r, 3), want[r]);
        }
    }

    private static void neighboursAtSight() {
        sentence("NEIGHBOURS, if their PLACES are no more than SIGHT apart");
        int[] sights = {1, 2, 20, 49, 50, 98, 99};
        for (int sight : sights) {
            for (int apart = 0; apart <= 99; apart++) {
                HarbourLights x = told("sight " + sight + ";light 0;light " + apart);
                int near = apart <= sight ? 1 : 0;
                due("light(0, 2) by " + sight + ", " + apart + " apart", x.light(0, 2), 2 * near);
                due("light(1, 2) by " + sight + ", " + apart + " apart", x.light(1, 2), near);
            }
        }
        HarbourLights y = told("light 50;light 30;light 70;light 29;light 71;light 50");
        due("light(0, 2) by 20, as at first", y.light(0, 2), 38);
    }

    private static void neighboursOfAll() {
        sentence("Two LIGHTS are NEIGHBOURS");
        HarbourLights none = told("light 5");
        due("light(0, 2) of one alone", none.light(0, 2), 0);
        HarbourLights x = told(repeated("light 5", 6));
        for (int l = 0; l < 6; l++) {
            due("light(" + l + ", 2)", x.light(l, 2), 63 - (1 << l));
        }
        due("light(6, 2)", x.light(6, 2), UNKNOWN);
    }

    private static void clashOfLitNeighbours() {
        sentence("They CLASH, if both are LIT, by RHYTHMS that are LIKE");
        HarbourLights x = told("window 4;rhythm fddd;rhythm dfdd;rhythm ffdd;light 0;light 20;lit 0 0;lit 1 1");
        due("light(0, 3)", x.light(0, 3), 2);
        due("light(1, 3)", x.light(1, 3), 1);
        due("count(6)", x.count(6), 1);
        x.move(1, 21);
        due("light(0, 3) of no neighbours", x.light(0, 3), 0);
        due("count(6) of no neighbours", x.count(6), 0);
        x.undo();
        x.dark(0);
        due("light(0, 3) of a dark one", x.light(0, 3), 0);
        due("light(1, 3) with a dark one", x.light(1, 3), 0);
        due("count(6) with a dark one", x.count(6), 0);
        x.dark(1);
        due("light(0, 3) of two dark ones", x.light(0, 3), 0);
        due("count(6) of two dark ones", x.count(6), 0);
        x.lit(0, 2);
        x.lit(1, 1);
        due("like(1, 2, 1)", x.like(1, 2, 1), 1);
        due("light(0, 3) of weak ones", x.light(0, 3), 0);
        due("count(6) of weak ones", x.count(6), 0);
        x.lit(1, 2);
        due("light(0, 3) of one rhythm", x.light(0, 3), 2);
    }

    private static void clashOfAll() {
        sentence("6 pairs of LIGHTS that CLASH");
        HarbourLights x = told("rhythm fddd;" + repeated("light 5", 6));
        due("count(6) of dark ones", x.count(6), 0);
        for (int l = 0; l < 6; l++) {
            x.lit(l, 0);
            due("count(6) of " + (l + 1), x.count(6), l * (l + 1) / 2);
        }
        for (int l = 0; l < 6; l++) {
            due("light(" + l + ", 3)", x.light(l, 3), 63 - (1 << l));
        }
    }
}
