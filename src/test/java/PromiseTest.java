/** For each promise: ordinary inputs, the edges that the document names, and wrong inputs. */
public final class PromiseTest extends OfficeCheck {
    public static void main(String[] args) {
        newObject();
        write();
        erase();
        faultInClauses();
        faultOfNumbers();
        faultOfTooMany();
        faultWithEarlierTexts();
        office();
        officeLeavesAllAsTold();
        rhythm();
        light();
        like();
        lit();
        dark();
        move();
        undo();
        keepAndBack();
        plan();
        planWeak();
        most();
        apart();
        machine();
        watch();
        watchWithMissing();
        watchEnds();
        left();
        tape();
        put();
        draw();
        turn();
        find();
        strike();
        load();
        drop();
        count();
        CHECK.end();
    }

    private static void newObject() {
        promise(1);
        HarbourLights x = new HarbourLights();
        int[] want = {4, 2, 20, 0, 0, 0, 0, 0, 0, 0, 0};
        for (int what = 0; what < want.length; what++) {
            due("count(" + what + ")", x.count(what), want[what]);
        }
        due("rhythm(0, 0)", x.rhythm(0, 0), UNKNOWN);
        due("light(0, 0)", x.light(0, 0), UNKNOWN);
        due("undo()", x.undo(), NOT);
        due("see(0)", x.see(0), NOT);
        due("back(0)", x.back(0), NOT);
        due("drop(0)", x.drop(0), NULL);
        due("drop(1)", x.drop(1), NULL);
        due("drop(2)", x.drop(2), NULL);
    }

    private static void write() {
        promise(2);
        HarbourLights x = new HarbourLights();
        due("write(-1)", x.write(-1), OUTSIDE);
        due("write(256)", x.write(256), OUTSIDE);
        due("write(MIN)", x.write(LEAST_INT), OUTSIDE);
        due("count(10)", x.count(10), 0);
        due("write(0)", x.write(0), 1);
        due("write(255)", x.write(255), 2);
        for (int n = 3; n <= 200; n++) {
            due("write(97) as letter " + n, x.write('a'), n);
        }
        due("write(97) behind 200", x.write('a'), FULL);
        due("write(256) behind 200", x.write(256), OUTSIDE);
        due("count(10)", x.count(10), 200);
    }

    private static void erase() {
        promise(3);
        HarbourLights x = new HarbourLights();
        due("erase() of nothing", x.erase(), 0);
        spell(x, "light 1");
        due("erase()", x.erase(), 7);
        due("count(10)", x.count(10), 0);
        due("erase() again", x.erase(), 0);
        spell(x, "light 2");
        due("office()", x.office(), 1);
        due("count(4)", x.count(4), 1);
        due("light(0, 0)", x.light(0, 0), 2);
    }

    private static void faultInClauses() {
        promise(4);
        faultDue("", 0);
        faultDue("   ", 3);
        faultDue("beats 5", NONE);
        faultDue("window 3", NONE);
        faultDue("sight 7", NONE);
        faultDue("rhythm fdfd", NONE);
        faultDue("light 0", NONE);
        faultDue("rhythm fdfd;light 4;lit 0 0", NONE);
        faultDue("  beats   5  ;  window 5 ", NONE);
        faultDue("beats5;window5;rhythm fdfdd;light7;lit0 0", NONE);
        faultDue(";", 0);
        faultDue("light 1;", 8);
        faultDue("light 1; ", 9);
        faultDue("light 1;;light 2", 8);
        faultDue("light 1 light 2", 8);
        faultDue("light 1 2", 8);
        faultDue("light 1,light 2", 7);
        faultDue("buoy 1", 0);
        faultDue("lights 1", 0);
        faultDue("ligh 1", 0);
        faultDue("Light 1", 0);
        faultDue("lIght 1", 0);
        faultDue("5", 0);
        faultDue("light", 5);
        faultDue("light ", 6);
        faultDue("light x", 6);
        faultDue("light -1", 6);
        faultDue("light\t1", 5);
        faultDue("light;", 5);
        faultDue("light 1\n", 7);
        faultDue("light " + (char) 233, 6);
        faultDue("light " + (char) 0, 6);
        faultDue("rhythm", 6);
        faultDue("rhythm fdf", 7);
        faultDue("rhythm fdfdf", 7);
        faultDue("rhythm fdfx", 7);
        faultDue("rhythm fdfD", 7);
        faultDue("rhythm 1010", 7);
        faultDue("rhythm fdf d", 7);
        faultDue("rhythm fdfd1", 11);
        faultDue("rhythm fdfda", 7);
        faultDue("rhythm fdfdz", 7);
        faultDue("rhythm fdfd`", 11);
        faultDue("rhythm fdfd{", 11);
        faultDue("light 9/", 7);
        faultDue("light 9:", 7);
        faultDue("rhythm fdfd fdfd", 12);
        faultDue("beats 3;rhythm fdfd", 15);
        faultDue("rhythm fdfd;beats 3;rhythm fdf", NONE);
    }

    private static void faultOfNumbers() {
        promise(4);
        faultDue("beats 2", 6);
        faultDue("beats 3", NONE);
        faultDue("beats 8", NONE);
        faultDue("beats 9", 6);
        faultDue("beats 08", NONE);
        faultDue("beats 008", 6);
        faultDue("beats 80", 6);
        faultDue("window 1", 7);
        faultDue("window 2", NONE);
        faultDue("window 4", NONE);
        faultDue("window 5", 7);
        faultDue("window 02", NONE);
        faultDue("beats 7;window 7", NONE);
        faultDue("beats 7;window 8", 15);
        faultDue("beats 7;beats 3;window 4", 23);
        faultDue("sight 0", 6);
        faultDue("sight 1", NONE);
        faultDue("sight 99", NONE);
        faultDue("sight 00", 6);
        faultDue("sight 100", 6);
        faultDue("light 00", NONE);
        faultDue("light 99", NONE);
        faultDue("light 100", 6);
        faultDue("light 000", 6);
        faultDue("light 4294967296", 6);
        faultDue("lit", 3);
        faultDue("lit 0 0", 4);
        faultDue("rhythm fdfd;lit 0 0", 16);
        faultDue("light 1;lit 0 0", 14);
        faultDue("light 1;lit 0 0;rhythm fdfd", 14);
        faultDue("light 1;rhythm fdfd;lit 0", 25);
        faultDue("light 1;rhythm fdfd;lit 0;light 1", 25);
        faultDue("light 1;rhythm fdfd;lit 1 0", 24);
        faultDue("light 1;rhythm fdfd;lit 0 1", 26);
        faultDue("light 1;rhythm fdfd;lit 00 00", NONE);
        faultDue("light 1;rhythm fdfd;lit 000 0", 24);
        faultDue("light 1;rhythm fdfd;lit 0 0 0", 28);
        faultDue("light 1;rhythm fdfd;lit 00", 26);
        faultDue("light 1;rhythm fdfd;lit 0 0;lit 0 0", NONE);
        faultDue("light 1;rhythm fdfd;beats 4;lit 0 0", 32);
    }

    private static void faultOfTooMany() {
        promise(4);
        faultDue(repeated("rhythm fdfd", 8), NONE);
        faultDue(repeated("rhythm fdfd", 9), 96);
        faultDue(repeated("rhythm fdfd", 8) + ";rhythm 5", 96);
        faultDue(repeated("rhythm fdfd", 8) + ";beats 4;rhythm fdfd", NONE);
        faultDue(repeated("light 5", 6), NONE);
        faultDue(repeated("light 5", 7), 48);
        faultDue(repeated("light 5", 6) + ";light x", 48);
        faultDue(repeated("light 5", 6) + ";beats 3;light 5", NONE);
        faultDue(repeated("sight 5", 24), NONE);
        faultDue(repeated("sight 5", 24) + " ", NONE);
        faultDue(repeated("sight 5", 25), 191);
        faultDue(repeated("sight 5", 24) + ";", 191);
        faultDue(repeated("beats 5", 25), 191);
    }

    private static void faultWithEarlierTexts() {
        promise(4);
        HarbourLights x = told(repeated("rhythm fdfd", 8) + ";light 1");
        faultDue(x, "rhythm fdfd", 0);
        faultDue(x, "lit 0 7", NONE);
        faultDue(x, "lit 0 8", 6);
        faultDue(x, "lit 1 0", 4);
        faultDue(x, "window 4", NONE);
        faultDue(x, "beats 6;rhythm fdfdfd", NONE);
        due("count(0) is as it was", x.count(0), 4);
        due("count(3) is as it was", x.count(3), 8);
        faultDue(x, "light 4;light 5;bad", 16);
        due("count(4) is as it was", x.count(4), 1);
        HarbourLights y = new HarbourLights();
        for (int n = 1; n <= 9; n++) {
            faultDue(y, "light 1;rhythm fddd", NONE);
        }
        faultDue(y, "lit 0 0", 4);
    }

    private static void office() {
        promise(5);
        HarbourLights x = new HarbourLights();
        due("office() of nothing", x.office(), NOT);
        spell(x, "sight 9; beats 6; rhythm fddfdd ;window 3;light 7;light 99;lit 1 0;rhythm dddddf");
        due("office()", x.office(), 8);
        due("count(10)", x.count(10), 0);
        due("count(0)", x.count(0), 6);
        due("count(1)", x.count(1), 3);
        due("count(2)", x.count(2), 20);
        due("count(3)", x.count(3), 2);
        due("count(4)", x.count(4), 2);
        due("count(5)", x.count(5), 2);
        due("rhythm(0, 0)", x.rhythm(0, 0), 36);
        due("rhythm(1, 0)", x.rhythm(1, 0), 1);
        due("light(0, 0)", x.light(0, 0), 7);
        due("light(0, 1)", x.light(0, 1), NONE);
        due("light(1, 1)", x.light(1, 1), 0);
        spell(x, "light 8;lit 1 1;sight 45");
        due("office() of a second text", x.office(), 3);
        due("count(0)", x.count(0), 6);
        due("count(1)", x.count(1), 3);
        due("count(2)", x.count(2), 45);
        due("count(3)", x.count(3), 2);
        due("count(4)", x.count(4), 3);
        due("light(1, 1)", x.light(1, 1), 1);
        spell(x, "lit 0 1;lit 0 0;lit 7 0");
        due("office() with a fault", x.office(), NOT);
        due("light(0, 1)", x.light(0, 1), NONE);
        due("erase()", x.erase(), 23);
        spell(x, "window 5;beats 3");
        due("office() with beats", x.office(), 2);
        int[] want = {3, 2, 20, 0, 0, 0, 0, 0, 0, 0, 0};
        for (int what = 0; what < want.length; what++) {
            due("count(" + what + ")", x.count(what), want[what]);
        }
        spell(x, "light 3");
        due("office()", x.office(), 1);
        due("a light of a new coast is dark", x.light(0, 1), NONE);
        spell(x, repeated("sight 5", 23) + ";sight 6");
        due("office() of 24", x.office(), 24);
        due("count(2)", x.count(2), 6);
    }

    private static void officeLeavesAllAsTold() {
        promise(5);
        HarbourLights x = told("rhythm fddd;rhythm ffdd;light 10;light 20;light 30;lit 0 0;lit 1 1");
        x.move(0, 15);
        x.lit(2, 1);
        x.dark(1);
        x.keep(0);
        x.keep(1);
        x.tape(0);
        x.tape(2);
        x.put(2, 0, 7);
        x.watch(15, 0);
        spell(x, "bad");
        due("office() with a fault", x.office(), NOT);
        due("count(7) is as it was", x.count(7), 8);
        due("count(8) is as it was", x.count(8), 1);
        due("count(9) is as it was", x.count(9), 3);
        due("light(0, 0) is as it was", x.light(0, 0), 15);
        due("keep is as it was", x.back(1), 2);
        x.move(1, 21);
        x.watch(15, 1);
        x.erase();
        spell(x, "light 40;lit 3 0");
        due("office()", x.office(), 2);
        due("light(0, 0) as told", x.light(0, 0), 10);
        due("light(1, 0) as told", x.light(1, 0), 20);
        due("light(0, 1) as told", x.light(0, 1), 0);
        due("light(1, 1) as told", x.light(1, 1), 1);
        due("light(2, 1) as told", x.light(2, 1), NONE);
        due("light(3, 1) as told", x.light(3, 1), 0);
        due("see(0)", x.see(0), NOT);
        due("count(7)", x.count(7), 0);
        due("undo()", x.undo(), NOT);
        due("back(0)", x.back(0), NOT);
        due("back(1)", x.back(1), NOT);
        due("draw(0, 0)", x.draw(0, 0), NULL);
        due("draw(2, 0)", x.draw(2, 0), NULL);
        due("count(8)", x.count(8), 0);
        due("count(9)", x.count(9), 0);
    }

    private static void rhythm() {
        promise(6);
        HarbourLights x = told("beats 6;rhythm fddfdd;rhythm dfdfdf;rhythm ffffff;rhythm dddddd;rhythm ffdfdd");
        int[][] want = {{36, 9, 3, 2, 1}, {21, 21, 2, 3, 0}, {63, 63, 1, 6, 0}, {0, 0, 1, 0, 0}, {52, 13, 6, 3, 4}};
        for (int r = 0; r < want.length; r++) {
            for (int what = 0; what < 5; what++) {
                due("rhythm(" + r + ", " + what + ")", x.rhythm(r, what), want[r][what]);
            }
        }
        due("rhythm(5, 0)", x.rhythm(5, 0), UNKNOWN);
        due("rhythm(-1, 0)", x.rhythm(-1, 0), UNKNOWN);
        due("rhythm(0, 5)", x.rhythm(0, 5), OUTSIDE);
        due("rhythm(0, -1)", x.rhythm(0, -1), OUTSIDE);
        due("rhythm(5, 5)", x.rhythm(5, 5), UNKNOWN);
        HarbourLights eight = told("beats 8;rhythm fffffffd;rhythm fddddddd;rhythm ffdfffdf");
        due("rhythm(0, 1)", eight.rhythm(0, 1), 127);
        due("rhythm(0, 2)", eight.rhythm(0, 2), 8);
        due("rhythm(0, 4)", eight.rhythm(0, 4), 7);
        due("rhythm(1, 0)", eight.rhythm(1, 0), 128);
        due("rhythm(1, 4)", eight.rhythm(1, 4), 1);
        due("rhythm(2, 2)", eight.rhythm(2, 2), 4);
        due("rhythm(2, 4)", eight.rhythm(2, 4), 2);
    }

    private static void light() {
        promise(7);
        HarbourLights x = told("beats 5;window 4;sight 30;rhythm fdddd;rhythm ffddd;rhythm fdfdd;"
            + "light 5;light 20;light 40;light 60;light 35;lit 0 0;lit 1 1;lit 2 2;lit 3 1");
        int[][] want = {{5, 0, 18, 2}, {20, 1, 21, 1}, {40, 2, 26, 0}, {60, 1, 20, 0}, {35, NONE, 15, 0}};
        for (int l = 0; l < want.length; l++) {
            for (int what = 0; what < 4; what++) {
                due("light(" + l + ", " + what + ")", x.light(l, what), want[l][what]);
            }
        }
        due("lit(4, 2)", x.lit(4, 2), NONE);
        due("light(4, 3) with the like", x.light(4, 3), 5);
        due("light(5, 0)", x.light(5, 0), UNKNOWN);
        due("light(-1, 0)", x.light(-1, 0), UNKNOWN);
        due("light(0, 4)", x.light(0, 4), OUTSIDE);
        due("light(0, -1)", x.light(0, -1), OUTSIDE);
        due("light(5, 4)", x.light(5, 4), UNKNOWN);
        HarbourLights far = told("sight 99;light 0;light 99;light 0");
        due("light(0, 2)", far.light(0, 2), 6);
        due("light(0, 3) of dark ones", far.light(0, 3), 0);
    }

    private static void like() {
        promise(8);
        HarbourLights x = told("beats 5;window 4;rhythm fdddd;rhythm ffddd;rhythm fdfdd;rhythm fffff;rhythm dddfd;rhythm ffffd");
        due("like(0, 1, 0)", x.like(0, 1, 0), 1);
        due("like(1, 2, 0)", x.like(1, 2, 0), 0);
        due("like(1, 2, 1)", x.like(1, 2, 1), 1);
        due("like(2, 1, 1)", x.like(2, 1, 1), 1);
        due("like(0, 4, 0) turned", x.like(0, 4, 0), 1);
        due("like(3, 5, 0)", x.like(3, 5, 0), 1);
        due("like(3, 2, 1)", x.like(3, 2, 1), 0);
        due("like(2, 2, 0) one and the same", x.like(2, 2, 0), 1);
        due("like(2, 2, 1)", x.like(2, 2, 1), 1);
        due("like(0, 1, 1) the like are weak", x.like(0, 1, 1), 1);
        due("like(6, 0, 0)", x.like(6, 0, 0), UNKNOWN);
        due("like(0, 6, 0)", x.like(0, 6, 0), UNKNOWN);
        due("like(-1, 0, 0)", x.like(-1, 0, 0), UNKNOWN);
        due("like(0, 0, 2)", x.like(0, 0, 2), OUTSIDE);
        due("like(0, 0, -1)", x.like(0, 0, -1), OUTSIDE);
        due("like(0, 6, 2)", x.like(0, 6, 2), UNKNOWN);
        HarbourLights y = told("beats 3;window 3;rhythm fff;rhythm ffd;rhythm fdd;rhythm ddd");
        due("like(0, 1, 0) of whole rows", y.like(0, 1, 0), 0);
        due("like(0, 1, 1)", y.like(0, 1, 1), 1);
        due("like(1, 0, 1)", y.like(1, 0, 1), 1);
        due("like(0, 2, 1) two flashes away", y.like(0, 2, 1), 0);
        due("like(2, 3, 1)", y.like(2, 3, 1), 1);
        due("like(1, 3, 1)", y.like(1, 3, 1), 0);
        HarbourLights z = told("beats 4;window 3;rhythm fffd;rhythm ffff;rhythm dfff");
        due("like(0, 1, 0) by its row at 0 alone", z.like(0, 1, 0), 1);
        due("like(1, 0, 0)", z.like(1, 0, 0), 1);
        due("like(1, 2, 0)", z.like(1, 2, 0), 1);
    }

    private static void lit() {
        promise(9);
        HarbourLights x = told("rhythm fddd;rhythm ffdd;light 10;light 20");
        due("lit(0, 1)", x.lit(0, 1), NONE);
        due("light(0, 1)", x.light(0, 1), 1);
        due("lit(0, 1) again", x.lit(0, 1), NOT);
        due("count(9)", x.count(9), 1);
        due("lit(0, 0)", x.lit(0, 0), 1);
        due("light(0, 1)", x.light(0, 1), 0);
        due("lit(2, 0)", x.lit(2, 0), UNKNOWN);
        due("lit(0, 2)", x.lit(0, 2), UNKNOWN);
        due("lit(-1, 0)", x.lit(-1, 0), UNKNOWN);
        due("lit(0, -1)", x.lit(0, -1), UNKNOWN);
        due("lit(1, -1) of a dark one", x.lit(1, -1), UNKNOWN);
        due("count(5)", x.count(5), 1);
        due("count(9)", x.count(9), 2);
    }

    private static void dark() {
        promise(10);
        HarbourLights x = told("rhythm fddd;rhythm ffdd;light 10;light 20;lit 0 1");
        due("dark(1)", x.dark(1), NOT);
        due("dark(2)", x.dark(2), UNKNOWN);
        due("dark(-1)", x.dark(-1), UNKNOWN);
        due("dark(0)", x.dark(0), 1);
        due("dark(0) again", x.dark(0), NOT);
        due("light(0, 1)", x.light(0, 1), NONE);
        due("count(9)", x.count(9), 1);
    }

    private static void move() {
        promise(11);
        HarbourLights x = told("rhythm fddd;light 10;light 20");
        due("move(0, 99)", x.move(0, 99), 10);
        due("move(0, 99) again", x.move(0, 99), NOT);
        due("move(0, 0)", x.move(0, 0), 99);
        due("light(0, 0)", x.light(0, 0), 0);
        due("move(0, 100)", x.move(0, 100), OUTSIDE);
        due("move(0, -1)", x.move(0, -1), OUTSIDE);
        due("move(2, 5)", x.move(2, 5), UNKNOWN);
        due("move(2, 100)", x.move(2, 100), UNKNOWN);
        due("move(-1, 5)", x.move(-1, 5), UNKNOWN);
        due("move(0, 20) to the place of another", x.move(0, 20), 0);
        due("count(9)", x.count(9), 3);
    }

    private static void undo() {
        promise(12);
        HarbourLights x = told("rhythm fddd;rhythm ffdd;light 10;light 20;lit 1 1");
        due("undo()", x.undo(), NOT);
        x.lit(0, 0);
        x.lit(0, 1);
        x.move(0, 50);
        x.dark(1);
        x.move(1, 51);
        due("undo() of move", x.undo(), 4);
        due("light(1, 0)", x.light(1, 0), 20);
        due("light(1, 1)", x.light(1, 1), NONE);
        due("undo() of dark", x.undo(), 3);
        due("light(1, 1)", x.light(1, 1), 1);
        due("undo() of move", x.undo(), 2);
        due("light(0, 0)", x.light(0, 0), 10);
        due("light(0, 1)", x.light(0, 1), 1);
        due("undo() of lit", x.undo(), 1);
        due("light(0, 1)", x.light(0, 1), 0);
        due("undo() of the first lit", x.undo(), 0);
        due("light(0, 1)", x.light(0, 1), NONE);
        due("undo()", x.undo(), NOT);
        for (int place = 1; place <= 9; place++) {
            x.move(0, place);
            due("count(9)", x.count(9), Math.min(place, 8));
        }
        for (int n = 7; n >= 0; n--) {
            due("undo()", x.undo(), n);
        }
        due("undo() of a ninth", x.undo(), NOT);
        due("light(0, 0)", x.light(0, 0), 1);
        x.move(0, 1);
        x.move(0, 100);
        x.dark(0);
        due("what was refused cannot be undone", x.undo(), NOT);
        undoOfTheLastEight();
    }

    private static void undoOfTheLastEight() {
        HarbourLights x = told("rhythm fddd;rhythm ffdd;light 0;light 1;light 2;light 3;light 4;light 5");
        for (int light = 0; light < 6; light++) {
            x.lit(light, light % 2);
        }
        x.move(0, 50);
        x.dark(0);
        x.lit(0, 1);
        x.move(1, 51);
        for (int n = 7; n >= 0; n--) {
            due("undo()", x.undo(), n);
        }
        due("undo() of a ninth", x.undo(), NOT);
        due("count(5)", x.count(5), 3);
        due("light(0, 0)", x.light(0, 0), 0);
        due("light(1, 0)", x.light(1, 0), 1);
        due("light(0, 1)", x.light(0, 1), 0);
        due("light(1, 1)", x.light(1, 1), 1);
    }

    private static void keepAndBack() {
        promise(13);
        HarbourLights x = told("rhythm fddd;rhythm ffdd;light 10;light 20;lit 1 1");
        due("keep(-1)", x.keep(-1), UNKNOWN);
        due("keep(2)", x.keep(2), UNKNOWN);
        due("keep(0)", x.keep(0), 1);
        x.lit(0, 0);
        x.move(1, 77);
        due("keep(1)", x.keep(1), 2);
        due("keep() leaves what can be undone", x.count(9), 2);
        promise(14);
        due("back(2)", x.back(2), UNKNOWN);
        due("back(-1)", x.back(-1), UNKNOWN);
        due("back(0)", x.back(0), 1);
        due("light(0, 1)", x.light(0, 1), NONE);
        due("light(1, 0)", x.light(1, 0), 20);
        due("count(9)", x.count(9), 0);
        due("undo()", x.undo(), NOT);
        due("back(1)", x.back(1), 2);
        due("light(0, 1)", x.light(0, 1), 0);
        due("light(1, 0)", x.light(1, 0), 77);
        x.dark(0);
        x.dark(1);
        due("back(1) again", x.back(1), 2);
        x.dark(0);
        due("keep(1) anew", x.keep(1), 1);
        x.dark(1);
        due("back(1) to the newer", x.back(1), 1);
        HarbourLights y = told("light 1");
        due("back(0)", y.back(0), NOT);
        due("keep(1)", y.keep(1), 0);
        due("back(0)", y.back(0), NOT);
        due("back(1)", y.back(1), 0);
    }

    private static void planIs(HarbourLights x, int strict, int... want) {
        boolean[] used = new boolean[8];
        int unlike = 0;
        for (int l = 0; l < want.length; l++) {
            due("plan(" + strict + ", " + l + ")", x.plan(strict, l), want[l]);
            unlike += used[want[l]] ? 0 : 1;
            used[want[l]] = true;
        }
        due("plan(" + strict + ", NONE)", x.plan(strict, NONE), unlike);
    }

    private static void plan() {
        promise(15);
        HarbourLights none = new HarbourLights();
        due("plan(0, NONE) without lights", none.plan(0, NONE), 0);
        due("plan(1, NONE) without lights", none.plan(1, NONE), 0);
        due("plan(0, 0)", none.plan(0, 0), UNKNOWN);
        due("plan(2, 0)", none.plan(2, 0), UNKNOWN);
        due("plan(2, NONE)", none.plan(2, NONE), OUTSIDE);
        due("plan(-1, NONE)", none.plan(-1, NONE), OUTSIDE);
        due("plan(0, -2)", none.plan(0, -2), UNKNOWN);
        HarbourLights bare = told("light 1");
        due("plan(0, NONE) without rhythms", bare.plan(0, NONE), NONE);
        due("plan(0, 0) without rhythms", bare.plan(0, 0), NONE);
        due("plan(2, 0)", bare.plan(2, 0), OUTSIDE);
        planIs(told("rhythm fddd;rhythm ffff;light 0;light 50;light 99;lit 0 1"), 0, 0, 0, 0);
        String three = "beats 3;window 3;rhythm fff;rhythm ddd;rhythm fdd;rhythm ffd;";
        planIs(told(three + "light 0;light 20;light 40;light 60"), 0, 0, 1, 0, 1);
        planIs(told(three + "light 0;light 21;light 10;light 40"), 0, 0, 0, 1, 1);
        planIs(told(three + "light 0;light 0;light 0;light 0"), 0, 0, 1, 2, 3);
        HarbourLights full = told(three + "light 0;light 0;light 0;light 0;light 20");
        due("plan(0, NONE) of five", full.plan(0, NONE), NONE);
        due("plan(0, 4) of five", full.plan(0, 4), NONE);
        full.move(4, 21);
        planIs(full, 0, 0, 1, 2, 3, 0);
        due("nothing is lit by it", full.count(5), 0);
        HarbourLights twins = told("rhythm fddd;rhythm fddd;rhythm ffff;light 0;light 0");
        planIs(twins, 0, 0, 2);
    }

    /** Fewest goes ahead of first: the first light gets a later rhythm, if that spares one. */
    private static void planWeak() {
        promise(15);
        String three = "beats 3;window 3;rhythm fff;rhythm ddd;rhythm fdd;rhythm ffd;";
        planIs(told(three + "light 0;light 0"), 1, 0, 1);
        HarbourLights x = told(three + "light 0;light 0;light 0");
        due("plan(1, NONE)", x.plan(1, NONE), NONE);
        HarbourLights y = told("beats 4;window 4;rhythm fffd;rhythm ffff;rhythm fddd;rhythm dddd;light 0;light 0;light 60;light 60");
        planIs(y, 1, 0, 2, 0, 2);
        HarbourLights z = told("beats 4;window 3;rhythm fddd;rhythm ffff;rhythm ffdd;rhythm dddd;light 0;light 20;light 40;light 60;light 41");
        due("like(0, 2, 0)", z.like(0, 2, 0), 1);
        due("like(2, 3, 0)", z.like(2, 3, 0), 0);
        planIs(z, 0, 1, 2, 1, 2, 3);
        planIs(told("beats 3;window 3;sight 7;rhythm ffd;rhythm dff;rhythm fff;rhythm ddf;light 2;light 31;light 8"), 1, 2, 2, 3);
        planIs(told("beats 3;window 2;sight 42;rhythm dfd;rhythm fff;light 13;light 71;light 60;light 22"), 0, 0, 1, 0, 1);
    }

    private static void most() {
        promise(16);
        due("most(0) of none", new HarbourLights().most(0), 0);
        HarbourLights x = told("beats 3;window 3;rhythm fff;rhythm ddd;rhythm fdd;rhythm ffd");
        due("most(0)", x.most(0), 15);
        due("most(1)", x.most(1), 3);
        due("most(2)", x.most(2), OUTSIDE);
        due("most(-1)", x.most(-1), OUTSIDE);
        HarbourLights y = told("beats 4;window 4;rhythm ffdd;rhythm fddd;rhythm dffd;rhythm dddd;rhythm ffff");
        due("most(0)", y.most(0), 27);
        due("most(1)", y.most(1), 25);
        due("most(0) of the like", told("rhythm fddd;rhythm dfdd;rhythm ddfd").most(0), 1);
        due("most(0) of one", told("rhythm fddd").most(0), 1);
    }

    private static void apart() {
        promise(17);
        HarbourLights x = told("beats 6;rhythm ffffff;rhythm dddddd;rhythm fddddd;rhythm ddfddd;rhythm ffdddd;rhythm fddfdd;rhythm fdfdfd");
        due("apart(0, 1)", x.apart(0, 1), 1);
        due("apart(0, 2)", x.apart(0, 2), 2);
        due("apart(0, 4)", x.apart(0, 4), 3);
        due("apart(1, 2)", x.apart(1, 2), 6);
        due("apart(2, 4)", x.apart(2, 4), 6);
        due("apart(2, 3) turned", x.apart(2, 3), NONE);
        due("apart(5, 5)", x.apart(5, 5), NONE);
        due("apart(5, 6)", x.apart(5, 6), 4);
        due("apart(6, 5)", x.apart(6, 5), 4);
        due("apart(7, 0)", x.apart(7, 0), UNKNOWN);
        due("apart(0, 7)", x.apart(0, 7), UNKNOWN);
        due("apart(-1, 0)", x.apart(-1, 0), UNKNOWN);
    }

    private static void machine() {
        promise(18);
        HarbourLights x = told("beats 3;rhythm fff;rhythm ddd;rhythm fdd;rhythm ffd;light 0;light 0;light 0;light 0;light 0;light 21");
        due("machine(0, 0) of dark ones", x.machine(0, 0), 0);
        due("machine(0, 1) of dark ones", x.machine(0, 1), NONE);
        x.lit(0, 0);
        due("machine(0, 0) of a steady one", x.machine(0, 0), 1);
        due("machine(0, 1) of one", x.machine(0, 1), 0);
        due("machine(20, 0)", x.machine(20, 0), 1);
        due("machine(21, 0)", x.machine(21, 0), 0);
        due("machine(21, 1)", x.machine(21, 1), NONE);
        x.lit(1, 1);
        due("machine(0, 0) of two", x.machine(0, 0), 3);
        due("machine(0, 1) of two", x.machine(0, 1), 1);
        x.lit(2, 2);
        x.lit(3, 3);
        due("machine(0, 0) of four", x.machine(0, 0), 15);
        due("machine(0, 1) of four", x.machine(0, 1), 3);
        x.lit(4, 3);
        due("machine(0, 0) of five", x.machine(0, 0), 15);
        due("machine(0, 1) of twins", x.machine(0, 1), NONE);
        x.lit(5, 0);
        due("machine(99, 0)", x.machine(99, 0), 0);
        due("machine(41, 0)", x.machine(41, 0), 1);
        due("machine(42, 0)", x.machine(42, 0), 0);
        due("machine(-1, 0)", x.machine(-1, 0), OUTSIDE);
        due("machine(100, 0)", x.machine(100, 0), OUTSIDE);
        due("machine(0, 2)", x.machine(0, 2), OUTSIDE);
        due("machine(0, -1)", x.machine(0, -1), OUTSIDE);
        HarbourLights one = told("beats 3;rhythm fdd;light 5;lit 0 0");
        due("machine(5, 0) of one", one.machine(5, 0), 5);
        HarbourLights eight = told("beats 8;rhythm fddddddd;rhythm dddddddd;light 5;lit 0 0;light 6;lit 1 1");
        due("machine(5, 1) behind eight beats", eight.machine(5, 1), 8);
        HarbourLights first = told("beats 3;rhythm dff;light 5;lit 0 0");
        due("machine(5, 0) of a dark first beat", first.machine(5, 0), 5);
        spell(first, "beats 5;rhythm fdddd;rhythm ffddd;light 1;light 2;lit 0 0;lit 1 1");
        due("office()", first.office(), 7);
        due("machine(1, 0) behind another b", first.machine(1, 0), 19);
        due("machine(1, 1) behind another b", first.machine(1, 1), 5);
    }

    private static void watch() {
        promise(19);
        HarbourLights x = told("beats 3;rhythm fdd;rhythm ffd;light 0;light 20;light 41;lit 0 0;lit 1 1;lit 2 0");
        due("watch(-1, 0)", x.watch(-1, 0), OUTSIDE);
        due("watch(100, 0)", x.watch(100, 0), OUTSIDE);
        due("watch(0, 2)", x.watch(0, 2), OUTSIDE);
        due("watch(0, -1)", x.watch(0, -1), OUTSIDE);
        due("see(0)", x.see(0), NOT);
        due("watch(0, 0)", x.watch(0, 0), 6);
        due("watch(21, 1)", x.watch(21, 1), 6);
        due("watch(30, 0)", x.watch(30, 0), 6);
        due("watch(99, 0)", x.watch(99, 0), 0);
        due("see(0) of none", x.see(0), 0);
        promise(20);
        due("watch(0, 0)", x.watch(0, 0), 6);
        due("see(2)", x.see(2), OUTSIDE);
        due("see(-1)", x.see(-1), OUTSIDE);
        due("count(7)", x.count(7), 6);
        due("see(1)", x.see(1), 3);
        due("see(0)", x.see(0), 2);
        due("see(0)", x.see(0), 1);
        due("left(0, 0)", x.left(0, 0), 1);
        due("see(1)", x.see(1), 1);
        due("see(1)", x.see(1), 0);
        due("see(1)", x.see(1), 0);
        due("watch(0, 0) anew", x.watch(0, 0), 6);
        due("watch(100, 0) refused", x.watch(100, 0), OUTSIDE);
        due("count(7)", x.count(7), 6);
        HarbourLights y = new HarbourLights();
        due("see(2) ahead of NOT", y.see(2), OUTSIDE);
        due("see(1)", y.see(1), NOT);
    }

    private static void watchWithMissing() {
        promise(20);
        HarbourLights x = told("beats 3;rhythm ffd;rhythm fff;light 0;light 1;lit 0 0;lit 1 1");
        due("watch(0, 1)", x.watch(0, 1), 6);
        due("see(0)", x.see(0), 6);
        due("see(0)", x.see(0), 2);
        due("left(1, 0)", x.left(1, 0), 0);
        due("left(1, 1)", x.left(1, 1), 1);
        due("left(1, 2)", x.left(1, 2), NONE);
        due("see(1) of those left", x.see(1), 2);
        due("see(0): the one had its miss", x.see(0), 1);
        due("left(1, 0)", x.left(1, 0), 0);
        due("watch(0, 1)", x.watch(0, 1), 6);
        due("see(1): a flash seen is no miss", x.see(1), 5);
        due("watch(0, 0)", x.watch(0, 0), 6);
        due("see(0) without missing", x.see(0), 1);
        due("watch(0, 1) anew", x.watch(0, 1), 6);
        due("see(0): no miss is left from the watch before", x.see(0), 6);
        due("watch(0, 1) anew", x.watch(0, 1), 6);
        due("left(1, 0): nor a turn", x.left(1, 0), 0);
        due("see(0)", x.see(0), 6);
        due("left(1, 0)", x.left(1, 0), 1);
        HarbourLights y = told("beats 3;rhythm dff;light 0;lit 0 0");
        due("watch(0, 0)", y.watch(0, 0), 3);
        due("see(0)", y.see(0), 1);
        due("left(1, 0)", y.left(1, 0), 1);
    }

    private static void watchEnds() {
        promise(20);
        HarbourLights x = told("beats 3;rhythm fdd;rhythm ffd;light 0;light 20;lit 0 0");
        x.watch(0, 0);
        x.lit(0, 0);
        x.dark(1);
        x.move(0, 0);
        x.undo();
        x.back(0);
        x.keep(0);
        x.plan(0, NONE);
        x.machine(0, 0);
        x.fault();
        x.office();
        x.tape(0);
        due("what is refused or only told does not end it", x.see(0), 2);
        due("lit(1, 1)", x.lit(1, 1), NONE);
        due("see(0) behind lit()", x.see(0), NOT);
        due("count(7)", x.count(7), 0);
        x.watch(0, 0);
        due("dark(1)", x.dark(1), 1);
        due("see(0) behind dark()", x.see(0), NOT);
        x.watch(0, 0);
        due("move(1, 21)", x.move(1, 21), 20);
        due("left(0, 0) behind move()", x.left(0, 0), NOT);
        x.watch(0, 0);
        due("undo()", x.undo(), 2);
        due("see(0) behind undo()", x.see(0), NOT);
        x.watch(0, 0);
        due("back(0)", x.back(0), 1);
        due("see(0) behind back()", x.see(0), NOT);
        x.watch(0, 0);
        spell(x, "sight 5");
        due("see(1) while a text is written", x.see(1), 1);
        due("office()", x.office(), 1);
        due("see(0) behind office()", x.see(0), NOT);
    }

    private static void left() {
        promise(21);
        HarbourLights x = told("beats 3;rhythm fdd;rhythm ffd;light 0;light 20;light 41;lit 0 0;lit 1 1;lit 2 0");
        due("left(2, 0) ahead of NOT", x.left(2, 0), OUTSIDE);
        due("left(0, 0)", x.left(0, 0), NOT);
        due("left(1, 0)", x.left(1, 0), NOT);
        x.watch(30, 0);
        due("left(0, 0)", x.left(0, 0), 6);
        due("left(0, 99)", x.left(0, 99), 6);
        int[] first = {10, 11, 12, 20, 21, 22, NONE};
        for (int k = 0; k < first.length; k++) {
            due("left(1, " + k + ")", x.left(1, k), first[k]);
        }
        due("left(1, MAX)", x.left(1, GREATEST_INT), NONE);
        due("left(1, -1)", x.left(1, -1), OUTSIDE);
        due("left(0, -1)", x.left(0, -1), OUTSIDE);
        due("left(-1, 0)", x.left(-1, 0), OUTSIDE);
        due("left(2, 0)", x.left(2, 0), OUTSIDE);
        due("see(0)", x.see(0), 3);
        due("left(1, 0) began with 2", x.left(1, 0), 10);
        due("left(1, 1) began with 1", x.left(1, 1), 22);
        due("left(1, 2) began with 2", x.left(1, 2), 20);
        due("left(1, 3)", x.left(1, 3), NONE);
        due("see(0)", x.see(0), 1);
        due("left(1, 0)", x.left(1, 0), 20);
        due("left(0, 0)", x.left(0, 0), 4);
    }

    private static void tape() {
        promise(22);
        HarbourLights x = new HarbourLights();
        due("tape(-1)", x.tape(-1), UNKNOWN);
        due("tape(3)", x.tape(3), UNKNOWN);
        due("tape(0)", x.tape(0), 0);
        due("tape(2)", x.tape(2), 0);
        due("draw(0, 0)", x.draw(0, 0), EMPTY);
        due("draw(1, 0)", x.draw(1, 0), NULL);
        x.put(0, 0, 5);
        due("tape(0) anew", x.tape(0), 0);
        due("count(8)", x.count(8), 0);
        due("draw(0, 0)", x.draw(0, 0), EMPTY);
    }

    private static void put() {
        promise(23);
        HarbourLights x = new HarbourLights();
        due("put(0, 0, 1)", x.put(0, 0, 1), NULL);
        due("put(3, 2, 1)", x.put(3, 2, 1), UNKNOWN);
        due("put(-1, 0, 1)", x.put(-1, 0, 1), UNKNOWN);
        due("put(0, 2, 1) ahead of NULL", x.put(0, 2, 1), OUTSIDE);
        due("put(0, -1, 1)", x.put(0, -1, 1), OUTSIDE);
        due("put(0, 0, 10000)", x.put(0, 0, 10000), OUTSIDE);
        due("put(0, 0, -10000)", x.put(0, 0, -10000), OUTSIDE);
        due("put(0, 0, MIN)", x.put(0, 0, LEAST_INT), OUTSIDE);
        x.tape(0);
        due("put(0, 0, 9999)", x.put(0, 0, 9999), 1);
        due("put(0, 0, -9999)", x.put(0, 0, -9999), 2);
        due("put(0, 1, 4)", x.put(0, 1, 4), 3);
        due("draw(0, 0)", x.draw(0, 0), 40001);
        due("draw(0, 0)", x.draw(0, 0), 59999);
        due("draw(0, 0)", x.draw(0, 0), 50004);
        for (int n = 1; n <= 12; n++) {
            due("put(0, " + n % 2 + ", " + n + ")", x.put(0, n % 2, n), n);
        }
        due("put(0, 0, 13)", x.put(0, 0, 13), ROOM);
        due("put(0, 1, 13)", x.put(0, 1, 13), ROOM);
        due("put(0, 2, 13)", x.put(0, 2, 13), OUTSIDE);
        int[] want = {12, 10, 8, 6, 4, 2, 1, 3, 5, 7, 9, 11};
        for (int v : want) {
            due("draw(0, 0)", x.draw(0, 0), 50000 + v);
        }
    }

    private static void draw() {
        promise(24);
        HarbourLights x = new HarbourLights();
        due("draw(3, 0)", x.draw(3, 0), UNKNOWN);
        due("draw(-1, 5)", x.draw(-1, 5), UNKNOWN);
        due("draw(0, 2)", x.draw(0, 2), OUTSIDE);
        due("draw(0, -1)", x.draw(0, -1), OUTSIDE);
        due("draw(0, 0)", x.draw(0, 0), NULL);
        x.tape(0);
        due("draw(0, 1)", x.draw(0, 1), EMPTY);
        for (int v = 1; v <= 4; v++) {
            x.put(0, 1, v);
        }
        due("draw(0, 1)", x.draw(0, 1), 50004);
        due("draw(0, 0)", x.draw(0, 0), 50001);
        due("draw(0, 1)", x.draw(0, 1), 50003);
        due("draw(0, 1)", x.draw(0, 1), 50002);
        due("draw(0, 1)", x.draw(0, 1), EMPTY);
        due("drop(0): it still is there", x.drop(0), 0);
    }

    private static void turn() {
        promise(25);
        HarbourLights x = new HarbourLights();
        due("turn(3, 100)", x.turn(3, 100), UNKNOWN);
        due("turn(-1, 1)", x.turn(-1, 1), UNKNOWN);
        due("turn(0, 100) ahead of NULL", x.turn(0, 100), OUTSIDE);
        due("turn(0, -1)", x.turn(0, -1), OUTSIDE);
        due("turn(0, 1)", x.turn(0, 1), NULL);
        x.tape(0);
        due("turn(0, 0)", x.turn(0, 0), EMPTY);
        for (int v = 1; v <= 5; v++) {
            x.put(0, 1, v);
        }
        due("turn(0, 2)", x.turn(0, 2), 5);
        due("turn(0, 0)", x.turn(0, 0), 5);
        due("draw(0, 0)", x.draw(0, 0), 50003);
        due("draw(0, 1)", x.draw(0, 1), 50002);
        due("turn(0, 99)", x.turn(0, 99), 3);
        due("draw(0, 0)", x.draw(0, 0), 50004);
        due("turn(0, 99)", x.turn(0, 99), 2);
        due("draw(0, 0)", x.draw(0, 0), 50001);
        due("turn(0, 7) of one", x.turn(0, 7), 1);
        due("draw(0, 0)", x.draw(0, 0), 50005);
    }

    private static void find() {
        promise(26);
        HarbourLights x = new HarbourLights();
        due("find(3, 3, 0)", x.find(3, 3, 0), UNKNOWN);
        due("find(-1, 0, 0)", x.find(-1, 0, 0), UNKNOWN);
        due("find(0, 3, 0)", x.find(0, 3, 0), OUTSIDE);
        due("find(0, -1, 0)", x.find(0, -1, 0), OUTSIDE);
        due("find(0, 0, 10000)", x.find(0, 0, 10000), OUTSIDE);
        due("find(0, 1, -10000)", x.find(0, 1, -10000), OUTSIDE);
        due("find(0, 2, 10000)", x.find(0, 2, 10000), OUTSIDE);
        for (int what = 0; what < 3; what++) {
            due("find(0, " + what + ", 0)", x.find(0, what, 0), NULL);
        }
        x.tape(0);
        due("find(0, 0, 0)", x.find(0, 0, 0), EMPTY);
        due("find(0, 1, 0)", x.find(0, 1, 0), EMPTY);
        due("find(0, 2, 0)", x.find(0, 2, 0), 0);
        x.put(0, 1, -3);
        due("find(0, 0, 0) of one", x.find(0, 0, 0), 49997);
        due("find(0, 1, 0) of one", x.find(0, 1, 0), 49997);
        x.put(0, 1, 9);
        x.put(0, 1, -7);
        x.put(0, 1, 9);
        due("find(0, 0, 0)", x.find(0, 0, 0), 50009);
        due("find(0, 1, 0)", x.find(0, 1, 0), 49993);
        due("find(0, 2, 9)", x.find(0, 2, 9), 2);
        due("find(0, 2, 8)", x.find(0, 2, 8), 0);
        x.draw(0, 1);
        due("find(0, 2, 9)", x.find(0, 2, 9), 1);
        due("find(0, 2, -3)", x.find(0, 2, -3), 1);
        x.draw(0, 1);
        due("find(0, 0, 0) of two", x.find(0, 0, 0), 50009);
        x.draw(0, 0);
        x.put(0, 0, 10);
        due("find(0, 1, 0) of two", x.find(0, 1, 0), 50009);
        due("find(0, 0, 0) of two", x.find(0, 0, 0), 50010);
    }

    private static void strike() {
        promise(27);
        HarbourLights x = new HarbourLights();
        due("strike(3, 10000)", x.strike(3, 10000), UNKNOWN);
        due("strike(-1, 0)", x.strike(-1, 0), UNKNOWN);
        due("strike(0, 10000)", x.strike(0, 10000), OUTSIDE);
        due("strike(0, -10000)", x.strike(0, -10000), OUTSIDE);
        due("strike(0, 0)", x.strike(0, 0), NULL);
        x.tape(0);
        due("strike(0, 0) of none", x.strike(0, 0), 0);
        int[] row = {7, 1, 7, 7, 2, 3, 7};
        for (int v : row) {
            x.put(0, 1, v);
        }
        due("strike(0, 5)", x.strike(0, 5), 0);
        due("strike(0, 7)", x.strike(0, 7), 4);
        due("count(8)", x.count(8), 3);
        for (int v = 1; v <= 3; v++) {
            due("draw(0, 0)", x.draw(0, 0), 50000 + v);
        }
    }

    private static void load() {
        promise(28);
        HarbourLights x = told("beats 5;rhythm ffdfd");
        due("load(3, 0, 0)", x.load(3, 0, 0), UNKNOWN);
        due("load(-1, 0, 0)", x.load(-1, 0, 0), UNKNOWN);
        due("load(0, 1, 9)", x.load(0, 1, 9), UNKNOWN);
        due("load(0, -1, 0)", x.load(0, -1, 0), UNKNOWN);
        due("load(0, 0, 5)", x.load(0, 0, 5), OUTSIDE);
        due("load(0, 0, -1)", x.load(0, 0, -1), OUTSIDE);
        due("load(0, 0, 0)", x.load(0, 0, 0), NULL);
        x.tape(0);
        x.put(0, 1, 42);
        due("load(0, 0, 4)", x.load(0, 0, 4), 6);
        int[] want = {42, 0, 1, 1, 0, 1};
        for (int v : want) {
            due("draw(0, 0)", x.draw(0, 0), 50000 + v);
        }
        x.put(0, 0, 9);
        x.put(0, 0, 9);
        due("load(0, 0, 1)", x.load(0, 0, 1), 7);
        due("load(0, 0, 0) fills it", x.load(0, 0, 0), 12);
        x.draw(0, 0);
        x.draw(0, 0);
        x.draw(0, 0);
        x.draw(0, 0);
        due("load(0, 0, 0) of 8", x.load(0, 0, 0), ROOM);
        due("load(0, 0, 5) ahead of ROOM", x.load(0, 0, 5), OUTSIDE);
        due("count(8)", x.count(8), 8);
    }

    private static void drop() {
        promise(29);
        HarbourLights x = new HarbourLights();
        due("drop(3)", x.drop(3), UNKNOWN);
        due("drop(-1)", x.drop(-1), UNKNOWN);
        due("drop(1)", x.drop(1), NULL);
        x.tape(1);
        x.put(1, 0, 4);
        x.put(1, 0, 4);
        due("drop(1)", x.drop(1), 2);
        due("drop(1) again", x.drop(1), NULL);
        due("find(1, 2, 4)", x.find(1, 2, 4), NULL);
        due("count(8)", x.count(8), 0);
        x.tape(1);
        due("find(1, 2, 4) of a new one", x.find(1, 2, 4), 0);
    }

    private static void count() {
        promise(30);
        HarbourLights x = told("beats 7;window 5;sight 33;rhythm fdddddd;rhythm ffdfffd;light 1;light 34;light 60;"
            + "lit 0 0;lit 1 0;lit 2 0");
        x.move(2, 68);
        x.tape(0);
        x.tape(2);
        x.load(0, 0, 0);
        x.put(2, 0, 1);
        x.watch(0, 0);
        x.write(';');
        int[] want = {7, 5, 33, 2, 3, 7, 1, 7, 8, 1, 1};
        for (int what = 0; what < want.length; what++) {
            due("count(" + what + ")", x.count(what), want[what]);
        }
        due("count(11)", x.count(11), OUTSIDE);
        due("count(-1)", x.count(-1), OUTSIDE);
        due("move(2, 67)", x.move(2, 67), 68);
        due("count(6)", x.count(6), 2);
        x.dark(1);
        due("count(5)", x.count(5), 5);
        due("count(6)", x.count(6), 0);
        due("count(7)", x.count(7), 0);
        due("count(9)", x.count(9), 3);
    }
}
