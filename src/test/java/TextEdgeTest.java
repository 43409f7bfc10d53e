/** Section 1: the bounds of THE BOOK, of THE TEXT, of its CLAUSES and numbers, and where a FAULT is. */
public final class TextEdgeTest extends OfficeCheck {
    private static final String SIGHT_LAST = "; sight 5";

    public static void main(String[] args) {
        bookAtFirst();
        lettersOfTheText();
        textThatIsFull();
        clausesAtMost();
        beatsBounds();
        beatsBeginAnew();
        windowBounds();
        sightBounds();
        rhythmWords();
        rhythmsAtMost();
        rhythmNumbers();
        placesOfLights();
        lightsAtMost();
        litToldAhead();
        digitsOfNumbers();
        blanksBetween();
        tokensOfAnyLetter();
        firstFaultOfSeveral();
        endTooSoon();
        clausesInTheirOrder();
        earlierTexts();
        behindAllClauses();
        CHECK.end();
    }

    private static String blanks(int n) {
        return " ".repeat(n);
    }

    private static void bookAtFirst() {
        sentence("none at first; 4 at first; 2 at first; 20 at first");
        HarbourLights x = new HarbourLights();
        countsDue(x, 4, 2, 20, 0, 0, 0, 0, 0, 0, 0, 0);
        faultDue("rhythm fdd", 7);
        faultDue("rhythm fddd", NONE);
        faultDue("rhythm fdddd", 7);
        faultDue("lit 0 0", 4);
        sentence("LIT by a RHYTHM of THE BOOK or not at all (as at first)");
        due("light(0, 1)", told("rhythm fddd;light 5").light(0, 1), NONE);
    }

    private static void lettersOfTheText() {
        sentence("A letter (its number, 0 .. 255) more of THE TEXT: how many it has");
        HarbourLights x = new HarbourLights();
        int[] outside = {LEAST_INT, -256, -1, 256, 512, GREATEST_INT};
        for (int letter : outside) {
            due("write(" + letter + ")", x.write(letter), OUTSIDE);
            due("count(10)", x.count(10), 0);
        }
        for (int letter = 0; letter <= 199; letter++) {
            due("write(" + letter + ")", x.write(letter), letter + 1);
        }
        x.erase();
        for (int letter = 200; letter <= 255; letter++) {
            due("write(" + letter + ")", x.write(letter), letter - 199);
        }
    }

    private static void textThatIsFull() {
        sentence("THE TEXT is a row of letters, 200 at most");
        HarbourLights x = new HarbourLights();
        spell(x, "light 5" + blanks(192));
        due("the 200th letter", x.write(' '), 200);
        due("the 201st letter", x.write('x'), FULL);
        due("the 201st letter, OUTSIDE too", x.write(256), OUTSIDE);
        due("the 201st letter, OUTSIDE too", x.write(-1), OUTSIDE);
        due("count(10)", x.count(10), 200);
        due("fault() of a full text: the x did not come to it", x.fault(), NONE);
        due("office() of a full text", x.office(), 1);
        due("write() behind it", x.write('l'), 1);
        due("erase()", x.erase(), 1);
        faultDue("light 5" + blanks(192) + "x", 199);
        faultDue("light 5" + blanks(192) + ";", 200);
        faultDue(blanks(199) + "l", 199);
        faultDue(blanks(200), 200);
        faultDue(blanks(193) + "light 5", NONE);
        faultDue(blanks(193) + "light55", NONE);
        faultDue(blanks(192) + "light100", 197);
        faultDue(blanks(193) + "rhythmf", 193);
        faultDue("sight 5" + blanks(193), NONE);
        HarbourLights y = new HarbourLights();
        spell(y, blanks(200));
        due("erase() of a full text", y.erase(), 200);
        due("erase() again", y.erase(), 0);
        due("write() behind it", y.write('l'), 1);
    }

    private static void clausesAtMost() {
        sentence("CLAUSES with ; between, 24 at most");
        for (int n = 1; n <= 24; n++) {
            HarbourLights x = new HarbourLights();
            spell(x, repeated("sight 5", n));
            due("office() of " + n, x.office(), n);
        }
        faultDue(repeated("sight 5", 24), NONE);
        faultDue(repeated("sight 5", 24) + blanks(9), NONE);
        faultDue(repeated("sight 5", 25), 191);
        faultDue(repeated("sight 5", 24) + ";", 191);
        faultDue(repeated("sight5", 24) + " ;sight 5", 168);
        faultDue(repeated("sight5", 24) + ";buoy 5", 167);
        faultDue(repeated("sight 5", 23) + ";sight 0", 190);
        faultDue(repeated("sight 5", 23) + ";", 184);
        faultDue("sight 0;" + repeated("sight 5", 24), 6);
        HarbourLights x = new HarbourLights();
        spell(x, repeated("sight5", 24));
        due("office() of 24", x.office(), 24);
        spell(x, repeated("sight6", 24));
        due("office() of 24 more", x.office(), 24);
        due("count(2)", x.count(2), 6);
    }

    private static void beatsBounds() {
        sentence("beats: b is B, 3 to 8");
        for (int b = 0; b <= 99; b++) {
            faultDue("beats " + b, b >= 3 && b <= 8 ? NONE : 6);
            faultDue("beats " + b + SIGHT_LAST, b >= 3 && b <= 8 ? NONE : 6);
        }
        for (int b = 3; b <= 8; b++) {
            due("count(0)", told("beats " + b).count(0), b);
        }
        faultDue("beats 103", 6);
        faultDue("beats fddd", 6);
        faultDue("beats 3 3", 8);
    }

    private static void beatsBeginAnew() {
        sentence("all else as at first");
        HarbourLights x = told("beats 6;window 5;sight 77;rhythm fddddd;light 4;lit 0 0");
        tell(x, "beats 6");
        countsDue(x, 6, 2, 20, 0, 0, 0, 0, 0, 0, 0, 0);
        due("rhythm(0, 0)", x.rhythm(0, 0), UNKNOWN);
        due("light(0, 0)", x.light(0, 0), UNKNOWN);
        tell(x, "rhythm dddddf;light 9");
        due("rhythm(0, 0)", x.rhythm(0, 0), 1);
        due("light(0, 1): it is not lit as the one before", x.light(0, 1), NONE);
        tell(x, "window 6;sight 99;rhythm dddddd;light 3;lit 0 1;beats 3;light 8;rhythm ffd");
        countsDue(x, 3, 2, 20, 1, 1, 0, 0, 0, 0, 0, 0);
        due("light(0, 0)", x.light(0, 0), 8);
        faultDue(x, "beats 3;lit 0 0", 12);
        faultDue(x, "beats 4;rhythm fff", 15);
        faultDue(x, "beats 9;rhythm fff", 6);
        faultDue(x, "lit 0 0", NONE);
    }

    private static void windowBounds() {
        sentence("window: 2 to b");
        for (int b = 3; b <= 8; b++) {
            HarbourLights x = told("beats " + b);
            for (int w = 0; w <= 12; w++) {
                boolean stands = w >= 2 && w <= b;
                faultDue("beats " + b + ";window " + w, stands ? NONE : 15);
                faultDue(x, "window " + w, stands ? NONE : 7);
            }
            tell(x, "window " + b);
            due("count(1)", x.count(1), b);
            tell(x, "window 2");
            due("count(1)", x.count(1), 2);
        }
        faultDue("beats 8;window 8;beats 3;window 4", 32);
        faultDue("beats 3;beats 8;window 8", NONE);
        faultDue("window 5;beats 5", 7);
        faultDue("window 99", 7);
        faultDue("window 102", 7);
    }

    private static void sightBounds() {
        sentence("sight: 1 to 99");
        for (int s = 0; s <= 99; s++) {
            faultDue("sight " + s, s == 0 ? 6 : NONE);
        }
        faultDue("sight 00", 6);
        faultDue("sight 100", 6);
        due("count(2)", told("sight 1").count(2), 1);
        due("count(2)", told("sight 99").count(2), 99);
        due("count(2)", told("sight 09").count(2), 9);
    }

    private static void rhythmWords() {
        sentence("R being a word of just b letters, d for dark, f for flash");
        for (int b = 3; b <= 8; b++) {
            for (int n = 1; n <= 10; n++) {
                faultDue("beats " + b + ";rhythm " + "f".repeat(n), n == b ? NONE : 15);
                faultDue("beats " + b + ";rhythm " + "d".repeat(n) + SIGHT_LAST, n == b ? NONE : 15);
            }
        }
        for (char c = 'a'; c <= 'z'; c++) {
            int want = c == 'd' || c == 'f' ? NONE : 7;
            faultDue("rhythm " + c + "fdf", want);
            faultDue("rhythm fdf" + c, want);
        }
        faultDue("rhythm Ffdf", 7);
        faultDue("rhythm fdfF", 7);
        faultDue("rhythm fdf D", 7);
        faultDue("rhythm fd fd", 7);
        faultDue("rhythm 0101", 7);
        faultDue("rhythm fd1d", 7);
        faultDue("beats 3;rhythm fdd1", 18);
        faultDue("rhythmfdfd", 0);
    }

    private static void rhythmsAtMost() {
        sentence("a ninth cannot stand there (at its word rhythm)");
        HarbourLights x = told(repeated("rhythm fddd", 7));
        tell(x, "rhythm ffff");
        due("count(3)", x.count(3), 8);
        due("rhythm(7, 0)", x.rhythm(7, 0), 15);
        due("rhythm(8, 0)", x.rhythm(8, 0), UNKNOWN);
        String[] ninths = {"rhythm ffff", "rhythm fff", "rhythm", "rhythm 5", "rhythm;", "rhythm fff;buoy"};
        for (String ninth : ninths) {
            faultDue(x, ninth, 0);
            faultDue(x, "sight 5;  " + ninth, 10);
            faultDue(repeated("rhythm fddd", 8) + ";" + ninth, 96);
        }
        faultDue(x, "sight 0;rhythm ffff", 6);
        faultDue(x, "beats 3;rhythm fff", NONE);
        faultDue(repeated("rhythm fddd", 8) + ";beats 4;" + repeated("rhythm fddd", 8), NONE);
        due("count(3)", x.count(3), 8);
        due("rhythm(7, 0)", x.rhythm(7, 0), 15);
        tell(x, "light 5;lit 0 7");
        due("light(0, 1)", x.light(0, 1), 7);
        faultDue(x, "lit 0 8", 6);
    }

    private static void rhythmNumbers() {
        sentence("its NUMBER: the first BEAT as the greatest of b bits");
        for (int b = 3; b <= 8; b++) {
            String dark = "d".repeat(b - 1);
            String flash = "f".repeat(b);
            HarbourLights x = told("beats " + b + ";rhythm f" + dark + ";rhythm " + dark + "f;rhythm " + flash + ";rhythm d" + dark);
            due("rhythm(0, 0)", x.rhythm(0, 0), 1 << b - 1);
            due("rhythm(1, 0)", x.rhythm(1, 0), 1);
            due("rhythm(2, 0)", x.rhythm(2, 0), (1 << b) - 1);
            due("rhythm(3, 0)", x.rhythm(3, 0), 0);
        }
    }

    private static void placesOfLights() {
        sentence("light: a LIGHT more at PLACE P, 0 to 99");
        for (int p = 0; p <= 99; p++) {
            HarbourLights x = told("light " + p);
            due("light(0, 0)", x.light(0, 0), p);
        }
        faultDue("light 100", 6);
        faultDue("light 101", 6);
        faultDue("light 999", 6);
        faultDue("light -1", 6);
        due("light(0, 0)", told("light 00").light(0, 0), 0);
        due("light(0, 0)", told("light 07").light(0, 0), 7);
    }

    private static void lightsAtMost() {
        sentence("a seventh cannot");
        HarbourLights x = told(repeated("light 5", 5));
        tell(x, "light 99");
        due("count(4)", x.count(4), 6);
        due("light(5, 0)", x.light(5, 0), 99);
        due("light(6, 0)", x.light(6, 0), UNKNOWN);
        String[] sevenths = {"light 5", "light 100", "light", "light x", "light;", "light 5;buoy"};
        for (String seventh : sevenths) {
            faultDue(x, seventh, 0);
            faultDue(x, "sight 5 ; " + seventh, 10);
            faultDue(repeated("light 5", 6) + ";" + seventh, 48);
        }
        faultDue(x, "sight 0;light 5", 6);
        faultDue(x, "beats 4;light 5", NONE);
        faultDue(repeated("light5", 6) + ";beats 4;" + repeated("light5", 6), NONE);
        due("count(4)", x.count(4), 6);
        tell(x, "rhythm fddd;lit 5 0");
        due("count(5)", x.count(5), 32);
        faultDue(x, "lit 6 0", 4);
    }

    private static void litToldAhead() {
        sentence("lit: LIGHT L is LIT by RHYTHM K, both told ahead");
        String coast = repeated("light 5", 3) + ";" + repeated("rhythm fddd", 2) + ";";
        int from = coast.length() + 4;
        for (int light = 0; light <= 12; light++) {
            for (int rhythm = 0; rhythm <= 12; rhythm++) {
                int behindLight = from + (light > 9 ? 3 : 2);
                int want = light > 2 ? from : rhythm > 1 ? behindLight : NONE;
                faultDue(coast + "lit " + light + " " + rhythm, want);
            }
        }
        faultDue("lit 0 0;light 5;rhythm fddd", 4);
        faultDue("light 5;lit 0 0;rhythm fddd", 14);
        faultDue("rhythm fddd;lit 0 0;light 5", 16);
        faultDue("light 5;rhythm fddd;lit 0 0", NONE);
        faultDue("light 5;rhythm fddd;lit 1 0;light 5", 24);
        faultDue("light 5;rhythm fddd;lit 0 1;rhythm fddd", 26);
        faultDue("light 5;rhythm fddd;lit 99 99", 24);
        faultDue("light 5;rhythm fddd;lit 0 99", 26);
        faultDue("light 5;rhythm fddd;lit 100 0", 24);
        faultDue("light 5;rhythm fddd;lit 0 100", 26);
        HarbourLights x = told("light 5;rhythm fddd");
        faultDue(x, "lit 0 0", NONE);
        faultDue(x, "lit 1 0", 4);
        faultDue(x, "lit 0 1", 6);
        faultDue(x, "light 5;lit 1 0", NONE);
        faultDue(x, "lit 1 0;light 5", 4);
    }

    private static void digitsOfNumbers() {
        sentence("numbers of 1 or 2 digits (a number of more digits, also)");
        String[] words = {"beats", "window", "sight", "light"};
        for (String word : words) {
            int at = word.length() + 1;
            faultDue(word + " 3", NONE);
            faultDue(word + " 03", NONE);
            faultDue(word + " 003", at);
            faultDue(word + " 3000", at);
            faultDue(word + " 0000000003", at);
            // Numbers that would be 3 again, if they went round in 32 or in 64 bits.
            faultDue(word + " 4294967299", at);
            faultDue(word + " 18446744073709551619", at);
            faultDue(word + " " + "9".repeat(190), at);
        }
        String coast = "light 5;rhythm fddd;lit ";
        faultDue(coast + "0 00", NONE);
        faultDue(coast + "00 0", NONE);
        faultDue(coast + "000 0", 24);
        faultDue(coast + "0 000", 26);
        faultDue(coast + "4294967296 0", 24);
        faultDue(coast + "0 4294967296", 26);
        due("count(0)", told("beats 05").count(0), 5);
    }

    private static void blanksBetween() {
        sentence("blanks between");
        faultDue(" light 5", NONE);
        faultDue("light 5 ", NONE);
        faultDue("light" + blanks(20) + "5", NONE);
        faultDue("light 5" + blanks(9) + ";" + blanks(9) + "light 6", NONE);
        faultDue("light5;rhythm fddd;lit0 0", NONE);
        faultDue("light 5;rhythm fddd;lit 00", 26);
        faultDue("light 5 5", 8);
        faultDue("li ght 5", 0);
        faultDue("lightx 5", 0);
        faultDue("light 5x", 7);
        faultDue("light 5;rhythm fddd ffff", 20);
    }

    /** Each letter there is, at each place where a token begins or could go on. */
    private static void tokensOfAnyLetter() {
        sentence("a row of small letters, a row of digits, any other letter");
        for (int n = 0; n <= 255; n++) {
            char c = (char) n;
            boolean digit = c >= '0' && c <= '9';
            boolean small = c >= 'a' && c <= 'z';
            boolean blank = c == ' ';
            faultDue("" + c, blank ? 1 : 0);
            faultDue("light " + c, digit ? NONE : blank ? 7 : 6);
            faultDue("light" + c + "5", digit || blank ? NONE : small ? 0 : 5);
            faultDue("light 5" + c, digit || blank ? NONE : c == ';' ? 8 : 7);
            faultDue("light 5" + c + "sight 5", c == ';' ? NONE : blank || digit ? 8 : 7);
            faultDue("li" + c + "ght 5", 0);
            faultDue("rhythm fdfd" + c, small ? 7 : blank ? NONE : c == ';' ? 12 : 11);
            faultDue("rhythm" + c + "fdfd", small ? 0 : blank ? NONE : 6);
        }
    }

    private static void firstFaultOfSeveral() {
        sentence("A FAULT is at the first TOKEN that cannot stand there");
        faultDue("light 100;light x;buoy", 6);
        faultDue("light 5;light x;buoy", 14);
        faultDue("light 5;light 6;buoy", 16);
        faultDue("buoy;light 100", 0);
        faultDue("sight 0;beats 9", 6);
        faultDue("beats 9;sight 0", 6);
        faultDue("beats 4;sight 0", 14);
        faultDue("lit 7 9", 4);
        faultDue("light 5 ,;", 8);
        faultDue("light 5;,", 8);
        faultDue("rhythm fd;;", 7);
        faultDue("light ;", 6);
        faultDue("light 5;;", 8);
        faultDue(";light 5", 0);
        sentence("The place of the FAULT (the letter with which the TOKEN begins, or the length)");
        faultDue("light 5   ;   buoys", 14);
        faultDue("light 5   ;   99", 14);
        faultDue("light   12345", 8);
        faultDue("rhythm   ffddx", 9);
        faultDue("light 5 " + (char) 200 + (char) 200, 8);
    }

    private static void endTooSoon() {
        sentence("or at the end, if it comes too soon");
        int[] want = {0, 0, 0, 0, 0, 5, 6, NONE, 8, 8, 8, 8, 8, 8, 14, 15, NONE, 17, 17, 17, 17, 17, 17, 23, 24, 24, 24,
            24, NONE, 29, 29, 29, 32, 33, 34, 35, NONE};
        String text = "light 5;window 2;rhythm fddd;lit 0 0";
        for (int n = 0; n <= text.length(); n++) {
            faultDue(text.substring(0, n), want[n]);
        }
        String[] words = {"beats", "window", "sight", "rhythm", "light", "lit"};
        for (String word : words) {
            faultDue(word, word.length());
            faultDue(word + " ", word.length() + 1);
            faultDue(word + ";", word.length());
            faultDue(word + " ;", word.length() + 1);
            faultDue("  " + word, word.length() + 2);
        }
        HarbourLights x = told("light 5;rhythm fddd");
        faultDue(x, "lit 0", 5);
        faultDue(x, "lit 0  ", 7);
        faultDue(x, "lit 0;", 5);
        faultDue(x, "lit 0;lit 0 0", 5);
        faultDue(x, "", 0);
        due("office() of an empty text", x.office(), NOT);
    }

    private static void clausesInTheirOrder() {
        sentence("CLAUSES are done in their order");
        HarbourLights x = told("sight 3;sight 4;light 1;light 2;rhythm fddd;rhythm ffdd;lit 0 1;lit 0 0;window 4;window 3");
        due("count(2)", x.count(2), 4);
        due("count(1)", x.count(1), 3);
        due("light(0, 0)", x.light(0, 0), 1);
        due("light(1, 0)", x.light(1, 0), 2);
        due("light(0, 1)", x.light(0, 1), 0);
        due("rhythm(1, 0)", x.rhythm(1, 0), 12);
        tell(x, "sight 50;beats 4;light 7");
        countsDue(x, 4, 2, 20, 0, 1);
    }

    private static void earlierTexts() {
        sentence("what earlier texts told stays as it was told");
        HarbourLights x = told("beats 5;window 4;sight 30;rhythm fdddd;light 10;lit 0 0");
        tell(x, "light 11");
        countsDue(x, 5, 4, 30, 1, 2, 1);
        due("rhythm(0, 0)", x.rhythm(0, 0), 16);
        due("light(0, 0)", x.light(0, 0), 10);
        due("light(0, 1)", x.light(0, 1), 0);
        x.move(0, 60);
        x.dark(0);
        x.lit(1, 0);
        tell(x, "rhythm ffddd");
        countsDue(x, 5, 4, 30, 2, 2, 1);
        due("light(0, 0)", x.light(0, 0), 10);
        due("light(0, 1)", x.light(0, 1), 0);
        due("light(1, 1)", x.light(1, 1), NONE);
        tell(x, "lit 1 1");
        x.dark(1);
        tell(x, "window 2");
        due("light(1, 1)", x.light(1, 1), 1);
    }

    private static void behindAllClauses() {
        sentence("nobody watches, nothing is kept or can be undone; TAPES are all missing");
        HarbourLights x = told("rhythm fddd;light 10;lit 0 0");
        x.move(0, 11);
        x.keep(0);
        x.keep(1);
        x.watch(10, 0);
        for (int tape = 0; tape < 3; tape++) {
            x.tape(tape);
            x.put(tape, 0, tape);
        }
        tell(x, "sight 20");
        countsDue(x, 4, 2, 20, 1, 1, 1, 0, 0, 0, 0, 0);
        due("see(0)", x.see(0), NOT);
        due("left(0, 0)", x.left(0, 0), NOT);
        due("back(0)", x.back(0), NOT);
        due("back(1)", x.back(1), NOT);
        due("undo()", x.undo(), NOT);
        for (int tape = 0; tape < 3; tape++) {
            due("drop(" + tape + ")", x.drop(tape), NULL);
        }
        sentence("THE TEXT's CLAUSES are done, and it is empty then");
        due("count(10)", x.count(10), 0);
        due("fault()", x.fault(), 0);
        due("office()", x.office(), NOT);
        due("erase()", x.erase(), 0);
    }
}
