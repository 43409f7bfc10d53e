import java.util.Random;

/**
 * Runs of calls drawn by a seed (so they are the same each time) on the class and on the model, whose
 * answers are due.
 */
public final class ModelTest {
    private static final int RUNS = 600;
    private static final int CALLS = 512;
    private static final int COASTS = 2000;
    private static final String[] CLAUSES = {"beats", "window", "sight", "rhythm", "light", "lit"};
    private static final String ODD = " ;;09adfz/:`{AZ\t-";
    private static final Check CHECK = new Check();

    private final Random random;
    private final HarbourLights x = new HarbourLights();
    private final OfficeModel model = new OfficeModel();
    private int calls = 0;

    private ModelTest(long seed) {
        random = new Random(seed);
    }

    public static void main(String[] args) {
        for (int run = 0; run < RUNS && CHECK.wrong() < 20; run++) {
            CHECK.part("seed " + run);
            new ModelTest(run).run();
        }
        for (int coast = 0; coast < COASTS && CHECK.wrong() < 20; coast++) {
            CHECK.part("coast " + coast);
            new ModelTest(coast).planned();
        }
        CHECK.end();
    }

    /** Coasts that are small enough for the model to try all plans, with knots and lone lights. */
    private void planned() {
        int b = 3 + random.nextInt(3);
        int rhythms = 2 + random.nextInt(5);
        int lights = rhythms > 4 ? 4 : 3 + random.nextInt(4);
        StringBuilder text = new StringBuilder("beats " + b + ";window " + (2 + random.nextInt(b - 1)));
        text.append(";sight ").append(1 + random.nextInt(random.nextBoolean() ? 50 : 20));
        for (int i = 0; i < rhythms; i++) text.append(";rhythm ").append(beats(b));
        for (int i = 0; i < lights; i++) text.append(";light ").append(place());
        tell(text.toString());
        for (int strict = 0; strict < 2; strict++) {
            int l = random.nextInt(lights);
            due("plan(" + strict + ", -1) of " + text, x.plan(strict, -1), model.plan(strict, -1));
            due("plan(" + strict + ", " + l + ") of " + text, x.plan(strict, l), model.plan(strict, l));
        }
    }

    private void run() {
        int texts = 1 + random.nextInt(3);
        for (int i = 0; i < texts && calls < CALLS - 210; i++) {
            tell(text(i == 0));
            int more = 20 + random.nextInt(120);
            for (int n = 0; n < more && calls < CALLS; n++) {
                anyCall();
            }
        }
    }

    private void due(String call, int got, int want) {
        calls++;
        CHECK.due("call " + calls + ", " + call, got, want);
    }

    private void tell(String text) {
        for (int i = 0; i < text.length() && calls < CALLS - 5; i++) {
            int letter = text.charAt(i);
            due("write(" + letter + ")", x.write(letter), model.write(letter));
        }
        due("fault() of " + text, x.fault(), model.fault());
        due("office() of " + text, x.office(), model.office());
        if (random.nextInt(4) != 0) {
            due("erase()", x.erase(), model.erase());
        }
    }

    private String text(boolean first) {
        int b = first ? 3 + random.nextInt(6) : model.count(0);
        StringBuilder text = new StringBuilder();
        if (first && random.nextInt(8) != 0) {
            text.append("beats ").append(b).append(';');
            text.append("window ").append(2 + random.nextInt(b - 1)).append(';');
        }
        int rhythms = first ? 1 + random.nextInt(8) : 0;
        int lights = first ? 1 + random.nextInt(6) : 0;
        for (int i = 0; i < rhythms; i++) text.append("rhythm ").append(beats(b)).append(';');
        for (int i = 0; i < lights; i++) text.append("light ").append(place()).append(';');
        int others = random.nextInt(first ? 3 : 6);
        for (int i = 0; i <= others; i++) text.append(clause(b)).append(i == others ? "" : ";");
        if (random.nextInt(3) == 0) spoil(text);
        return text.toString();
    }

    private String clause(int b) {
        String word = CLAUSES[random.nextInt(100) < 3 ? 0 : 1 + random.nextInt(5)];
        String blank = random.nextInt(10) == 0 ? "" : random.nextInt(10) == 0 ? "  " : " ";
        switch (word) {
            case "beats": return word + blank + (2 + random.nextInt(8));
            case "window": return word + blank + (2 + random.nextInt(b));
            case "sight": return word + blank + random.nextInt(101);
            case "rhythm": return word + " " + beats(b);
            case "light": return word + blank + place();
            default: return word + blank + random.nextInt(4) + " " + random.nextInt(4);
        }
    }

    private int place() {
        return random.nextBoolean() ? random.nextInt(100) : 10 * random.nextInt(10);
    }

    private String beats(int b) {
        StringBuilder beats = new StringBuilder();
        int darkness = 1 + random.nextInt(3);
        for (int i = 0; i < b; i++) beats.append(random.nextInt(4) < darkness ? 'd' : 'f');
        return beats.toString();
    }

    private void spoil(StringBuilder text) {
        int at = random.nextInt(text.length());
        char letter = ODD.charAt(random.nextInt(ODD.length()));
        int how = random.nextInt(3);
        if (how == 0) text.setCharAt(at, letter);
        if (how == 1) text.insert(at, letter);
        if (how == 2) text.deleteCharAt(at);
    }

    /** Mostly a number that stands, now and then one at its edges or far off. */
    private int pick(int bound) {
        int how = random.nextInt(40);
        if (how == 0) return -1;
        if (how == 1) return bound;
        if (how == 2) return random.nextInt();
        return bound <= 0 ? 0 : random.nextInt(bound);
    }

    private int aLight() {
        return pick(model.count(4));
    }

    private int aRhythm() {
        return pick(model.count(3));
    }

    private void anyCall() {
        int kind = random.nextInt(10);
        if (kind < 2) doing();
        else if (kind < 4) telling();
        else if (kind < 5) foretelling();
        else if (kind < 8) watching();
        else taping();
    }

    private void telling() {
        int a = aRhythm();
        int b = aRhythm();
        int l = aLight();
        int what = pick(5);
        switch (random.nextInt(5)) {
            case 0: due("rhythm(" + a + ", " + what + ")", x.rhythm(a, what), model.rhythm(a, what)); break;
            case 1: due("light(" + l + ", " + what + ")", x.light(l, what), model.light(l, what)); break;
            case 2: due("like(" + a + ", " + b + ", " + what + ")", x.like(a, b, what), model.like(a, b, what)); break;
            case 3: due("apart(" + a + ", " + b + ")", x.apart(a, b), model.apart(a, b)); break;
            default:
                int c = pick(11);
                due("count(" + c + ")", x.count(c), model.count(c));
        }
    }

    private void doing() {
        int l = aLight();
        int r = aRhythm();
        int p = pick(100);
        int k = pick(2);
        switch (random.nextInt(9)) {
            case 0: case 1: case 2: due("lit(" + l + ", " + r + ")", x.lit(l, r), model.lit(l, r)); break;
            case 3: due("dark(" + l + ")", x.dark(l), model.dark(l)); break;
            case 4: case 5: due("move(" + l + ", " + p + ")", x.move(l, p), model.move(l, p)); break;
            case 6: due("undo()", x.undo(), model.undo()); break;
            case 7: due("keep(" + k + ")", x.keep(k), model.keep(k)); break;
            default: due("back(" + k + ")", x.back(k), model.back(k));
        }
    }

    private void foretelling() {
        int strict = pick(2);
        int q = pick(100);
        int l = random.nextInt(3) == 0 ? -1 : aLight();
        boolean cheap = Math.pow(model.count(3), model.count(4)) < 20000 || random.nextInt(40) == 0;
        switch (random.nextInt(4)) {
            case 0:
                if (cheap) due("plan(" + strict + ", " + l + ")", x.plan(strict, l), model.plan(strict, l));
                break;
            case 1: due("most(" + strict + ")", x.most(strict), model.most(strict)); break;
            default: due("machine(" + q + ", " + strict + ")", x.machine(q, strict), model.machine(q, strict));
        }
    }

    private void watching() {
        int q = pick(100);
        int bit = pick(2);
        int k = pick(12);
        switch (random.nextInt(8)) {
            case 0: due("watch(" + q + ", " + bit + ")", x.watch(q, bit), model.watch(q, bit)); break;
            case 1: case 2: case 3: due("see(" + bit + ")", x.see(bit), model.see(bit)); break;
            default: due("left(" + bit + ", " + k + ")", x.left(bit, k), model.left(bit, k));
        }
    }

    private void taping() {
        int t = pick(3);
        int end = pick(2);
        int v = random.nextInt(20) == 0 ? 9990 + random.nextInt(20) : random.nextInt(7) - 3;
        int r = aRhythm();
        int k = pick(model.count(0));
        int n = pick(100);
        switch (random.nextInt(14)) {
            case 0: due("tape(" + t + ")", x.tape(t), model.tape(t)); break;
            case 1: due("drop(" + t + ")", x.drop(t), model.drop(t)); break;
            case 2: due("draw(" + t + ", " + end + ")", x.draw(t, end), model.draw(t, end)); break;
            case 3: due("turn(" + t + ", " + n + ")", x.turn(t, n), model.turn(t, n)); break;
            case 4: case 5:
                int what = pick(3);
                due("find(" + t + ", " + what + ", " + v + ")", x.find(t, what, v), model.find(t, what, v));
                break;
            case 6: due("strike(" + t + ", " + v + ")", x.strike(t, v), model.strike(t, v)); break;
            case 7: case 8: due("load(" + t + ", " + r + ", " + k + ")", x.load(t, r, k), model.load(t, r, k)); break;
            default: due("put(" + t + ", " + end + ", " + v + ")", x.put(t, end, v), model.put(t, end, v));
        }
    }
}
