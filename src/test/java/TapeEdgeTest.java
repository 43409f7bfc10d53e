/** Section 4: TAPES, their bounds and those of their numbers, and what the machine finds. */
public final class TapeEdgeTest extends OfficeCheck {
    private static final int[] NO_TAPES = {LEAST_INT, -1, 3, GREATEST_INT};
    private static final int[] NO_NUMBERS = {LEAST_INT, -50000, -10000, 10000, 50000, GREATEST_INT};

    public static void main(String[] args) {
        missingAtFirst();
        threeTapes();
        tapesAreUnknown();
        tapeAnew();
        numbersAtTheBounds();
        numbersOutside();
        twelveAtMost();
        eitherEnd();
        drawnEmpty();
        turnedRound();
        turnedOutside();
        foundOfNone();
        foundOfAll();
        struckOut();
        loadedRound();
        loadedFull();
        dropped();
        counted();
        CHECK.end();
    }

    private static HarbourLights with(int... row) {
        HarbourLights x = new HarbourLights();
        x.tape(0);
        put(x, row);
        return x;
    }

    private static void put(HarbourLights x, int... row) {
        for (int v : row) {
            x.put(0, 1, v);
        }
    }

    /** Draws all: what stands behind the last one is that it has none. */
    private static void rowDue(String of, HarbourLights x, int... want) {
        for (int v : want) {
            due("draw(0, 0) of " + of, x.draw(0, 0), 50000 + v);
        }
        due("draw(0, 0) of all " + of, x.draw(0, 0), EMPTY);
    }

    private static void missingAtFirst() {
        sentence("TAPES 0 .. 2 are missing (at first)");
        HarbourLights x = told("rhythm fddd");
        for (int tape = 0; tape < 3; tape++) {
            due("put", x.put(tape, 0, 1), NULL);
            due("draw", x.draw(tape, 1), NULL);
            due("turn", x.turn(tape, 0), NULL);
            due("find 0", x.find(tape, 0, 0), NULL);
            due("find 1", x.find(tape, 1, 0), NULL);
            due("find 2", x.find(tape, 2, 0), NULL);
            due("strike", x.strike(tape, 0), NULL);
            due("load", x.load(tape, 0, 0), NULL);
            due("drop", x.drop(tape), NULL);
        }
        due("count(8)", x.count(8), 0);
    }

    private static void threeTapes() {
        sentence("TAPES 0 .. 2");
        HarbourLights x = new HarbourLights();
        for (int tape = 0; tape < 3; tape++) {
            due("tape(" + tape + ")", x.tape(tape), 0);
            due("put(" + tape + ", 0, 7)", x.put(tape, 0, 7 + tape), 1);
            due("put(" + tape + ", 1, 8)", x.put(tape, 1, 17 + tape), 2);
        }
        due("drop(1)", x.drop(1), 2);
        due("draw(1, 0)", x.draw(1, 0), NULL);
        due("draw(0, 0)", x.draw(0, 0), 50007);
        due("draw(2, 0)", x.draw(2, 0), 50009);
        due("draw(0, 0)", x.draw(0, 0), 50017);
        due("draw(0, 0)", x.draw(0, 0), EMPTY);
        due("draw(2, 0)", x.draw(2, 0), 50019);
    }

    private static void tapesAreUnknown() {
        sentence("UNKNOWN (no such TAPE)");
        HarbourLights x = told("rhythm fddd");
        for (int tape : NO_TAPES) {
            due("tape(" + tape + ")", x.tape(tape), UNKNOWN);
            due("put(" + tape + ", 0, 1)", x.put(tape, 0, 1), UNKNOWN);
            due("draw(" + tape + ", 0)", x.draw(tape, 0), UNKNOWN);
            due("turn(" + tape + ", 0)", x.turn(tape, 0), UNKNOWN);
            due("find(" + tape + ", 2, 0)", x.find(tape, 2, 0), UNKNOWN);
            due("strike(" + tape + ", 0)", x.strike(tape, 0), UNKNOWN);
            due("load(" + tape + ", 0, 0)", x.load(tape, 0, 0), UNKNOWN);
            due("drop(" + tape + ")", x.drop(tape), UNKNOWN);
        }
    }

    private static void tapeAnew() {
        sentence("A TAPE is a new one, with nothing: 0");
        HarbourLights x = with(1, 2, 3, 4, 5, 6, 7, 8, 9, 10, 11, 12);
        due("tape(0) of a full one", x.tape(0), 0);
        due("count(8)", x.count(8), 0);
        due("draw(0, 0)", x.draw(0, 0), EMPTY);
        due("put(0, 1, 3)", x.put(0, 1, 3), 1);
        due("find(0, 2, 1): nothing is left of the one before", x.find(0, 2, 1), 0);
        due("find(0, 0, 0)", x.find(0, 0, 0), 50003);
        due("tape(0)", x.tape(0), 0);
        due("tape(0) of an empty one", x.tape(0), 0);
        due("drop(0)", x.drop(0), 0);
        due("tape(0) of a missing one", x.tape(0), 0);
    }

    private static void numbersAtTheBounds() {
        sentence("numbers (-9999 .. 9999); a number v is answered as v and 50000");
        int[] numbers = {-9999, -9998, -1, 0, 1, 9998, 9999};
        for (int v : numbers) {
            HarbourLights x = with();
            due("put(0, 0, " + v + ")", x.put(0, 0, v), 1);
            due("put(0, 1, " + v + ")", x.put(0, 1, v), 2);
            due("find(0, 0, 0)", x.find(0, 0, 0), 50000 + v);
            due("find(0, 1, 0)", x.find(0, 1, 0), 50000 + v);
            due("find(0, 2, " + v + ")", x.find(0, 2, v), 2);
            due("draw(0, 0)", x.draw(0, 0), 50000 + v);
            due("strike(0, " + v + ")", x.strike(0, v), 1);
            due("put(0, 0, " + v + ")", x.put(0, 0, v), 1);
            due("draw(0, 1)", x.draw(0, 1), 50000 + v);
        }
    }

    private static void numbersOutside() {
        sentence("OUTSIDE (another number is not as told)");
        HarbourLights x = with(5);
        for (int v : NO_NUMBERS) {
            due("put(0, 0, " + v + ")", x.put(0, 0, v), OUTSIDE);
            due("put(0, 1, " + v + ")", x.put(0, 1, v), OUTSIDE);
            for (int what = 0; what < 3; what++) {
                due("find(0, " + what + ", " + v + ")", x.find(0, what, v), OUTSIDE);
            }
            due("strike(0, " + v + ")", x.strike(0, v), OUTSIDE);
        }
        int[] noEnds = {LEAST_INT, -1, 2, GREATEST_INT};
        for (int end : noEnds) {
            due("put(0, " + end + ", 1)", x.put(0, end, 1), OUTSIDE);
            due("draw(0, " + end + ")", x.draw(0, end), OUTSIDE);
        }
        int[] noWhats = {LEAST_INT, -1, 3, GREATEST_INT};
        for (int what : noWhats) {
            due("find(0, " + what + ", 5)", x.find(0, what, 5), OUTSIDE);
        }
        rowDue("what was refused", x, 5);
    }

    private static void twelveAtMost() {
        sentence("ROOM -13 (there would be more than 12)");
        for (int end = 0; end < 2; end++) {
            HarbourLights x = with();
            for (int n = 1; n <= 12; n++) {
                due("put(0, " + end + ", " + n + ")", x.put(0, end, n), n);
            }
            due("put(0, 0, 13)", x.put(0, 0, 13), ROOM);
            due("put(0, 1, 13)", x.put(0, 1, 13), ROOM);
            due("count(8)", x.count(8), 12);
            due("draw(0, 1)", x.draw(0, 1), end == 0 ? 50001 : 50012);
            due("put(0, 1, 77)", x.put(0, 1, 77), 12);
            due("put(0, 0, 13)", x.put(0, 0, 13), ROOM);
            due("draw(0, 0)", x.draw(0, 0), end == 0 ? 50012 : 50001);
            due("draw(0, 1)", x.draw(0, 1), 50077);
            due("put(0, 0, 78)", x.put(0, 0, 78), 11);
            due("put(0, 0, 79)", x.put(0, 0, 79), 12);
            due("draw(0, 0)", x.draw(0, 0), 50079);
        }
    }

    private static void eitherEnd() {
        sentence("at its front (end 0), behind it (1)");
        HarbourLights x = with();
        x.put(0, 0, 2);
        x.put(0, 0, 1);
        x.put(0, 1, 3);
        due("draw(0, 1)", x.draw(0, 1), 50003);
        due("draw(0, 0)", x.draw(0, 0), 50001);
        due("draw(0, 1) of one", x.draw(0, 1), 50002);
        x.put(0, 1, 4);
        due("draw(0, 0) of one", x.draw(0, 0), 50004);
        due("count(8)", x.count(8), 0);
    }

    private static void drawnEmpty() {
        sentence("EMPTY -12 (it has none)");
        HarbourLights x = with(9);
        x.draw(0, 0);
        due("draw(0, 0)", x.draw(0, 0), EMPTY);
        due("draw(0, 1)", x.draw(0, 1), EMPTY);
        due("turn(0, 0)", x.turn(0, 0), EMPTY);
        due("turn(0, 99)", x.turn(0, 99), EMPTY);
        due("find(0, 0, 0)", x.find(0, 0, 0), EMPTY);
        due("find(0, 1, 0)", x.find(0, 1, 0), EMPTY);
        due("put(0, 0, 1): it is not missing", x.put(0, 0, 1), 1);
    }

    private static void turnedRound() {
        sentence("The first n (0 .. 99) of a TAPE come behind the others, one by one (round and round)");
        for (int size = 1; size <= 12; size++) {
            for (int n = 0; n <= 99; n++) {
                HarbourLights x = with();
                for (int v = 0; v < size; v++) {
                    x.put(0, 1, v);
                }
                due("turn(0, " + n + ")", x.turn(0, n), size);
                int first = n % size;
                due("draw(0, 0) behind turn(0, " + n + ") of " + size, x.draw(0, 0), 50000 + first);
                due("draw(0, 1)", x.draw(0, 1), size == 1 ? EMPTY : 50000 + (first + size - 1) % size);
            }
        }
        HarbourLights y = with(1, 2, 3, 4);
        y.turn(0, 1);
        rowDue("one turned", y, 2, 3, 4, 1);
    }

    private static void turnedOutside() {
        sentence("OUTSIDE: n is not 0 .. 99");
        HarbourLights x = with(1, 2);
        int[] outside = {LEAST_INT, -1, 100, GREATEST_INT};
        for (int n : outside) {
            due("turn(0, " + n + ")", x.turn(0, n), OUTSIDE);
        }
        rowDue("what was refused", x, 1, 2);
    }

    private static void foundOfNone() {
        sentence("how many are v (2; 0, if it has none)");
        HarbourLights x = with();
        due("find(0, 2, 0)", x.find(0, 2, 0), 0);
        due("find(0, 2, 9999)", x.find(0, 2, 9999), 0);
        sentence("EMPTY (0, 1)");
        due("find(0, 0, 0)", x.find(0, 0, 0), EMPTY);
        due("find(0, 1, 0)", x.find(0, 1, 0), EMPTY);
    }

    private static void foundOfAll() {
        sentence("the greatest number (what 0), the least (1), how many are v (2; just how many)");
        HarbourLights x = with(4, -4, 4, 0, 4, 4, 4, 4, 4, 4, 9999, -9999);
        due("find(0, 0, 0)", x.find(0, 0, 0), 59999);
        due("find(0, 1, 0)", x.find(0, 1, 0), 40001);
        due("find(0, 2, 4)", x.find(0, 2, 4), 8);
        due("find(0, 2, -4)", x.find(0, 2, -4), 1);
        due("find(0, 2, 5)", x.find(0, 2, 5), 0);
        HarbourLights y = with(-3, -2, -5);
        due("find(0, 0, 0) of those below 0", y.find(0, 0, 0), 49998);
        due("find(0, 1, 0) of those below 0", y.find(0, 1, 0), 49995);
        HarbourLights z = with(7, 7, 7, 7, 7, 7, 7, 7, 7, 7, 7, 7);
        due("find(0, 2, 7) of twelve", z.find(0, 2, 7), 12);
        HarbourLights first = with(9, 5, 6);
        due("find(0, 0, 0), the first one", first.find(0, 0, 0), 50009);
        due("find(0, 1, 0), one between", first.find(0, 1, 0), 50005);
        rowDue("what was looked at", first, 9, 5, 6);
    }

    private static void struckOut() {
        sentence("All that are v are struck out of a TAPE: how many these were");
        HarbourLights x = with(5, 1, 5, 5, 2, 5);
        due("strike(0, 9)", x.strike(0, 9), 0);
        due("strike(0, 5)", x.strike(0, 5), 4);
        due("strike(0, 5) again", x.strike(0, 5), 0);
        rowDue("what is left", x, 1, 2);
        due("strike(0, 1) of none", x.strike(0, 1), 0);
        HarbourLights all = with(3, 3, 3, 3, 3, 3, 3, 3, 3, 3, 3, 3);
        due("strike(0, 3) of twelve", all.strike(0, 3), 12);
        due("draw(0, 0)", all.draw(0, 0), EMPTY);
        due("put(0, 0, 1): there is room again", all.put(0, 0, 1), 1);
    }

    private static void loadedRound() {
        sentence("BEATS of a RHYTHM, from the shift k on, b of them, come behind a TAPE");
        for (int b = 3; b <= 8; b++) {
            HarbourLights x = told("beats " + b + ";rhythm " + "d".repeat(b - 1) + "f;rhythm " + "f".repeat(b));
            for (int k = 0; k < b; k++) {
                x.tape(0);
                x.put(0, 0, 42);
                due("load(0, 0, " + k + ") of " + b, x.load(0, 0, k), b + 1);
                int[] row = new int[b + 1];
                row[0] = 42;
                row[b - k] = 1;
                rowDue("load(0, 0, " + k + ") of " + b, x, row);
            }
            due("load(0, 0, " + b + ")", x.load(0, 0, b), OUTSIDE);
            due("load(0, 0, -1)", x.load(0, 0, -1), OUTSIDE);
            due("load(0, 0, MAX)", x.load(0, 0, GREATEST_INT), OUTSIDE);
            due("load(0, 1, 0), the last rhythm", x.load(0, 1, 0), b);
            due("load(0, 2, 0)", x.load(0, 2, 0), UNKNOWN);
            due("load(0, -1, 0)", x.load(0, -1, 0), UNKNOWN);
        }
    }

    private static void loadedFull() {
        sentence("ROOM -13 (there would be more than 12); it changes nothing");
        for (int b = 3; b <= 8; b++) {
            for (int has = 0; has <= 12; has++) {
                HarbourLights x = told("beats " + b + ";rhythm " + "f".repeat(b));
                x.tape(0);
                for (int n = 0; n < has; n++) {
                    x.put(0, 1, 7);
                }
                boolean fits = has + b <= 12;
                due("load(0, 0, 0), " + b + " more than " + has, x.load(0, 0, 0), fits ? has + b : ROOM);
                due("count(8)", x.count(8), fits ? has + b : has);
                due("find(0, 2, 1)", x.find(0, 2, 1), fits ? b : 0);
            }
        }
    }

    private static void dropped() {
        sentence("A TAPE is missing from now on: how many it had");
        HarbourLights x = with();
        due("drop(0) of none", x.drop(0), 0);
        due("drop(0) again", x.drop(0), NULL);
        due("put(0, 0, 1)", x.put(0, 0, 1), NULL);
        x.tape(0);
        put(x, 1, 2, 3, 4, 5, 6, 7, 8, 9, 10, 11, 12);
        due("drop(0) of twelve", x.drop(0), 12);
        due("count(8)", x.count(8), 0);
        due("find(0, 2, 1)", x.find(0, 2, 1), NULL);
    }

    private static void counted() {
        sentence("8 numbers of all TAPES");
        HarbourLights x = new HarbourLights();
        for (int tape = 0; tape < 3; tape++) {
            x.tape(tape);
            for (int n = 1; n <= 12; n++) {
                x.put(tape, n % 2, n);
                due("count(8)", x.count(8), 12 * tape + n);
            }
        }
        x.drop(1);
        due("count(8) behind drop()", x.count(8), 24);
        x.tape(2);
        due("count(8) behind tape()", x.count(8), 12);
    }
}
