/** The promises one by one: ordinary calls, the document's edges, and wrong arguments, answers worked out by hand. */
public final class PromiseTest {
    private static final int NONE = MirrorLies.NONE;
    // Images of the faces 0 .. 7: p 0 0 0 2 0 4 4 6, q 1 3 0 7 6 1 2 7, r 2 3 0 1 2 3 0 1, s 4 5 6 7 0 1 2 3.
    private static final String FOUR = "marks 3;boy a has 0;boy b has 0 1 2;boy c;mirror p lie first;"
        + "mirror q lie many;mirror r lie 1 sees 0 to 1 price 0;mirror s lie day + 2 price 5 dust 4;draw 10;";
    private static final String LIE = "mirror a lie ";

    private final Checks checks = new Checks();

    public static void main(String[] args) {
        PromiseTest test = new PromiseTest();
        test.newObject();
        test.tape();
        test.schools();
        test.faults();
        test.limits();
        test.formulas();
        test.mirrors();
        test.acts();
        test.undone();
        test.madeAnew();
        test.halls();
        test.nights();
        test.mends();
        test.hangings();
        test.compared();
        test.boxes();
        test.looks();
        test.known();
        test.telling();
        test.abouts();
        test.checks.end("PromiseTest");
    }

    private void due(String call, long got, long want) {
        checks.due(call, got, want);
    }

    private void due(String call, boolean got, boolean want) {
        checks.due(call, got, want);
    }

    private void newObject() {
        due("NONE", MirrorLies.NONE, -1);
        MirrorLies x = new MirrorLies();
        int[] all = {0, 0, 6, 0, 0, 0, 0, 0, 0, 0, 0, 0};
        for (int what = 0; what < all.length; what++) {
            due("1: about " + what, x.about(what), all[what]);
        }
        due("1: fault", x.fault(0), 0);
        due("1: place", x.fault(1), NONE);
        due("1: like", x.like(0, 0), 64);
        due("1: face", x.face(0), NONE);
        due("1: undo", x.undo(), false);
        due("1: back", x.back(0), NONE);
        due("1: trues", x.trues(), 0);
        due("1: dull", x.dull(), 0);
    }

    private void tape() {
        MirrorLies x = new MirrorLies();
        for (int i = 1; i <= 80; i++) {
            due("2: feed", x.feed(-1, 0, 1, 2, 3), i * 20);
        }
        due("2: too many", x.feed(0, 0, 0, 0, 0), NONE);
        due("2: nothing came", x.about(9), 1600);
        due("3: end above", x.end(1601), NONE);
        due("3: end below", x.end(-1), NONE);
        due("3: nothing done", x.about(9), 1600);
        due("3: end 1581", x.end(1581), 1581);
        due("2: 1581 and 20", x.feed(0, 0, 0, 0, 0), NONE);
        due("3: end 1580", x.end(1580), 1580);
        due("2: 1580 and 20", x.feed(0, 0, 0, 0, 0), 1600);
        due("3: end 0", x.end(0), 0);
        due("3: tape", x.about(9), 0);
        // "boy ann;", then two bytes of rubbish, cut off: the highest byte comes first.
        due("2: order", x.feed(0x626f7920, 0x616e6e3b, 0xffff0000, 0, 0), 20);
        due("3: end 8", x.end(8), 8);
        due("2: order", x.school(), 0);
        due("2: order", x.about(1), 1);
        Checks.feed(x, "boy a;");
        Checks.feed(x, "boy b;");
        due("2: behind those", x.school(), 0);
        due("2: behind those", x.about(1), 2);
    }

    private void schools() {
        MirrorLies x = Checks.open(FOUR);
        due("4: tape empty", x.about(9), 0);
        due("4: mirrors", x.about(0), 4);
        due("4: boys", x.about(1), 3);
        due("4: width", x.about(2), 3);
        due("4: seed", x.about(4), 10);
        due("4: units", x.about(10), 5);
        x.night();
        x.night();
        x.undo();
        x.look(0, 0);
        x.later(9);
        x.hang(0);
        x.image(1);
        Checks.feed(x, "boy");
        due("4: fault", x.school(), NONE);
        int[] stay = {4, 3, 3, 1, 441, 1, 1, 1, 9, 3, 5, 1};
        for (int what = 0; what < stay.length; what++) {
            due("4: all stays " + what, x.about(what), stay[what]);
        }
        due("4: box stays", x.changed(1), 0);
        due("5: fault", x.fault(0), 2);
        due("5: place", x.fault(1), 3);
        due("5: another", x.fault(2), NONE);
        due("5: another", x.fault(-1), NONE);
        x.end(0);
        due("4: empty text", x.school(), 0);
        int[] fresh = {0, 0, 6, 0, 0, 0, 0, 0, 9, 0, 0, 0};
        for (int what = 0; what < fresh.length; what++) {
            due("4: anew " + what, x.about(what), fresh[what]);
        }
        due("4: boxes empty", x.back(1), NONE);
        due("5: none", x.fault(0), 0);
        due("5: none", x.fault(1), NONE);
        fault("marks3;boy a has0 1;mirror m lie(1)sees0 to2\nprice3 dust2;draw9;", 0, NONE);
    }

    private void fault(String text, int fault, int place) {
        MirrorLies x = new MirrorLies();
        Checks.feed(x, text);
        int answer = x.school();
        due("4: " + text, answer == NONE ? 1 : 0, fault == 0 ? 0 : 1);
        due("5: fault of " + text, x.fault(0), fault);
        due("5: place of " + text, x.fault(1), place);
        due("4: tape of " + text, x.about(9), fault == 0 ? 0 : text.length());
    }

    private void faults() {
        fault("", 0, NONE);
        fault(" \n ", 0, NONE);
        fault("marks 4;?", 1, 8);
        fault("marks\t4;", 1, 5);
        fault("Boy a;", 1, 0);
        fault("boy \u00e9;", 1, 4);
        fault("boy abcdefgh;", 0, NONE);
        fault("boy abcdefghi;", 1, 4);
        fault("marks 0004;", 0, NONE);
        fault("marks 00004;", 1, 6);
        fault("marks 4x;", 1, 6);
        fault("marks 9x;", 1, 6);
        fault("marks 4;x", 2, 8);
        fault("ann", 2, 0);
        fault("4", 2, 0);
        fault(";", 2, 0);
        fault("marks", 2, 5);
        fault("marks 4", 2, 7);
        fault("marks 4 \n", 2, 9);
        fault("marks 4 4;", 2, 8);
        fault("marks 9", 4, 6);
        fault("marks 0;", 4, 6);
        fault("marks 3;marks 3;", 2, 8);
        fault("draw 1;marks 3;", 2, 7);
        fault("boy a;marks 3;", 2, 6);
        fault("draw 999;", 0, NONE);
        fault("draw 1000;", 4, 5);
        fault("draw 1;draw 2;", 2, 7);
        fault("boy has;", 2, 4);
        fault("boy dusty;", 2, 4);
        fault("boy 1;", 2, 4);
        fault("boy a has;", 2, 9);
        fault("boy a has 0 0;", 3, 12);
        fault("boy a has 5;", 0, NONE);
        fault("boy a has 6;", 4, 10);
        fault("marks 2;boy a has 2;", 4, 18);
        fault("boy a;boy a;", 3, 10);
        fault("boy a;mirror a lie 0;", 0, NONE);
        fault("mirror a lie 0;mirror b lie 0;mirror a", 3, 37);
        fault("boy a;boy b;boy c;boy d;boy e", 2, 24);
        fault("mirror a;", 2, 8);
        fault(LIE + ";", 2, 13);
        fault(LIE + "bob;", 2, 13);
        fault(LIE + "1 < 2 < 3;", 2, 19);
        fault(LIE + "not;", 2, 16);
        fault(LIE + "1 + not 1;", 2, 17);
        fault(LIE + "(1;", 2, 15);
        fault(LIE + "1);", 2, 14);
        fault(LIE + "1 1;", 2, 15);
        fault(LIE + "- 1;", 2, 13);
        fault(LIE + "1 price 1 sees 0 to 1;", 2, 23);
        fault(LIE + "1 dust 1 dust 1;", 2, 22);
        fault(LIE + "1 sees 1 to 1;", 0, NONE);
        fault(LIE + "1 sees 3 to 2;", 4, 25);
        fault(LIE + "1 sees 0 to 6;", 4, 25);
        fault(LIE + "1 sees 6 to 7;", 4, 20);
        fault(LIE + "1 sees 0 2;", 2, 22);
        fault(LIE + "1 price 99 dust 9;", 0, NONE);
        fault(LIE + "1 price 100;", 4, 21);
        fault(LIE + "1 dust 10;", 4, 20);
    }

    private void limits() {
        fault(LIE + "(((((((1)))))));", 0, NONE);
        fault(LIE + "((((((((1))))))));", 2, 20);
        fault(LIE + "not not not not not not not 1;", 0, NONE);
        fault(LIE + "not not not not not not not not 1;", 2, 41);
        fault(LIE + "not (not (not (not 1 < 2)));", 0, NONE);
        fault(LIE + "not (not (not (not (1))));", 2, 32);
        fault(LIE + "1" + "+1".repeat(29) + ";", 0, NONE);
        fault(LIE + "1" + "+1".repeat(30) + ";", 2, 73);
        fault(LIE + "(1" + "+1".repeat(28) + ");", 0, NONE);
        fault(LIE + "(1" + "+1".repeat(29) + ");", 2, 72);
        StringBuilder many = new StringBuilder();
        for (int i = 0; i < 3; i++) {
            many.append("mirror ").append((char) ('a' + i)).append(" lie 1").append("+1".repeat(29)).append(';');
        }
        fault(many.toString(), 0, NONE);
        due("57: units", Checks.open(many.toString()).about(10), 90);
        fault(many + "mirror d lie 1;", 2, many.length() + 13);
        StringBuilder ten = new StringBuilder();
        for (int i = 0; i < 9; i++) {
            ten.append("mirror ").append((char) ('a' + i)).append(" lie 0;");
        }
        due("4: nine", Checks.open(ten.toString()).about(0), 9);
        fault(ten + "mirror j lie 0;", 2, 135);
        fault(" ".repeat(1600), 0, NONE);
        fault("(".repeat(1600), 2, 0);
        fault(LIE + "(".repeat(1500), 2, 20);
        fault(LIE + "not ".repeat(300), 2, 41);
    }

    private void worth(String formula, int mark) {
        MirrorLies x = Checks.open("marks 8;" + LIE + formula + " dust 2;");
        x.night();
        x.night();
        x.night();
        due("8: " + formula, x.lie(0, 0b1011000), mark);
    }

    private void formulas() {
        worth("day", 3);
        worth("many + 4", 7);
        worth("first", 3);
        worth("7 - 3", 4);
        worth("2 * 3", 6);
        worth("7 / 2", 3);
        worth("7 % 4", 3);
        worth("5 / 0", 0);
        worth("5 % 0", 0);
        worth("1 - 2 + 5", 4);
        worth("8 / 2 / 2", 2);
        worth("8 / 2 * 2 % 5", 3);
        worth("1 + 3 * 2", 7);
        worth("(1 + 2) * 2", 6);
        worth("(3 < 4) + 4", 5);
        worth("(4 < 4) + 4", 4);
        worth("3 > 4", 0);
        worth("3 + 1 > 4 - 1", 1);
        worth("4 > 4", 0);
        worth("3 = 3", 1);
        worth("2 and 3", 1);
        worth("2 and 0", 0);
        worth("0 or 5", 1);
        worth("0 or 0", 0);
        worth("1 or 0 and 0", 1);
        worth("not 5", 0);
        worth("not not 5", 1);
        worth("not 1 < 0", 1);
        worth("not 0 + 1", 0);
        worth("not 0 and 0", 0);
        worth("(0 - 7) / 2 + 4", 1);
        worth("(0 - 7) % 2 + 4", 3);
        worth("8", NONE);
        worth("0 - 1", NONE);
        worth("(9999 * 9999 * 9999 % 8 + 8) % 8", (9999 * 9999 * 9999 % 8 + 8) % 8);
        worth("(2048 * 2048 * 512 < 0) + 4", 5);
        worth("(2048 * 2048 * 512 / (0 - 1) = 2048 * 2048 * 512) + 4", 5);
        worth("2048 * 2048 * 512 % (0 - 1)", 0);
        due("8: dusty", Checks.open(LIE + "dusty dust 4;").lie(0, 0), 4);
        due("8: first of none", Checks.open("marks 3;" + LIE + "first = 3;").lie(0, 0), 1);
    }

    private void mirrors() {
        MirrorLies x = Checks.open(FOUR);
        due("6: face a", x.face(0), 1);
        due("6: face b", x.face(1), 7);
        due("6: face c", x.face(2), 0);
        due("6: none", x.face(3), NONE);
        due("6: none", x.face(-1), NONE);
        due("7: sees", x.mirror(0, 0), 7);
        due("7: sees", x.mirror(2, 0), 3);
        due("7: price", x.mirror(3, 1), 5);
        due("7: price not told", x.mirror(0, 1), 1);
        due("7: price 0", x.mirror(2, 1), 0);
        due("7: dust", x.mirror(3, 2), 4);
        due("7: crack", x.mirror(3, 3), 0);
        due("7: another", x.mirror(3, 4), NONE);
        due("7: another", x.mirror(3, -1), NONE);
        due("7: none", x.mirror(4, 0), NONE);
        due("7: none", x.mirror(-1, 0), NONE);
        due("7: in the middle", Checks.open(LIE + "0 sees 2 to 4;").mirror(0, 0), 28);
        due("8: none", x.lie(0, 0), NONE);
        due("8: first", x.lie(0, 6), 1);
        due("8: many", x.lie(1, 5), 2);
        due("8: not a mark", x.lie(1, 7), NONE);
        due("8: what it does not see", Checks.open(LIE + "0 sees 2 to 4;").lie(0, 0), 0);
        due("8: no mirror", x.lie(4, 0), NONE);
        due("8: no face", x.lie(0, 8), NONE);
        due("8: no face", x.lie(0, -1), NONE);
        int[][] images = {{0, 0, 0, 2, 0, 4, 4, 6}, {1, 3, 0, 7, 6, 1, 2, 7}, {2, 3, 0, 1, 2, 3, 0, 1},
            {4, 5, 6, 7, 0, 1, 2, 3}};
        for (int mirror = 0; mirror < 4; mirror++) {
            for (int face = 0; face < 8; face++) {
                due("9: shows " + mirror + " " + face, x.shows(mirror, face), images[mirror][face]);
            }
        }
        due("9: no mirror", x.shows(-1, 0), NONE);
        due("9: no mirror", x.shows(4, 0), NONE);
        due("9: no face", x.shows(0, 8), NONE);
        due("9: no face", x.shows(0, -1), NONE);
        due("9: 5 dust", Checks.open(LIE + "0 sees 2 to 4 dust 5;").shows(0, 63), 28);
        due("9: 4 dust", Checks.open(LIE + "2 sees 2 to 4 dust 4;").shows(0, 63), 24);
    }

    private void acts() {
        MirrorLies x = Checks.open(FOUR);
        due("10: comes", x.mark(0, 2), 5);
        due("10: goes", x.mark(0, 0), 4);
        due("10: face", x.face(0), 4);
        due("10: no boy", x.mark(3, 0), NONE);
        due("10: no boy", x.mark(-1, 0), NONE);
        due("10: no mark", x.mark(0, 3), NONE);
        due("10: no mark", x.mark(0, -1), NONE);
        due("10: acts", x.about(5), 2);
        due("11: breathe", x.breathe(3), 7);
        due("11: at most", x.breathe(3), 9);
        due("11: at most", x.breathe(3), 9);
        due("11: none", x.breathe(4), NONE);
        due("11: none", x.breathe(-1), NONE);
        due("11: acts", x.about(5), 5);
        due("11: it is blind", x.lie(3, 0), NONE);
        due("12: had", x.wipe(3), 9);
        due("12: had none", x.wipe(3), 0);
        due("12: lies again", x.lie(3, 0), 2);
        due("12: none", x.wipe(4), NONE);
        due("12: none", x.wipe(-1), NONE);
        due("12: acts", x.about(5), 7);
        due("13: crack", x.crack(1, 7), 1);
        due("13: moved", x.lie(1, 5), 0);
        due("13: not a mark yet", x.lie(1, 7), NONE);
        due("13: more", x.crack(1, 1), 2);
        due("13: round", x.crack(1, 1), 0);
        due("13: by 0", x.crack(1, 0), NONE);
        due("13: by 8", x.crack(1, 8), NONE);
        due("13: none", x.crack(4, 1), NONE);
        due("13: none", x.crack(-1, 1), NONE);
        due("13: acts", x.about(5), 10);
        MirrorLies y = Checks.open(FOUR);
        int[] seeds = {441, 488, 927, 70, 661, 628, 107};
        for (int i = 0; i < 7; i++) {
            due("14: day", y.night(), i + 1);
            due("14: seed", y.about(4), seeds[i]);
        }
        int[] dust = {1, 1, 0, 5};
        for (int mirror = 0; mirror < 4; mirror++) {
            due("14: dust " + mirror, y.mirror(mirror, 2), dust[mirror]);
        }
        due("14: lie by the day", Checks.open(LIE + "day;").lie(0, 0), 0);
        MirrorLies z = Checks.open("boy a;" + LIE + "0 dust 8;draw 1;");
        z.night();
        due("14: 9 at most", z.mirror(0, 2), 9);
        MirrorLies none = new MirrorLies();
        due("14: without mirrors", none.night(), 1);
        due("14: without mirrors", none.about(4), 71);
    }

    private void undone() {
        MirrorLies x = Checks.open(FOUR);
        due("15: nothing", x.undo(), false);
        due("16: nothing", x.redo(), false);
        x.mark(0, 1);
        x.breathe(3);
        x.crack(1, 2);
        x.wipe(3);
        x.night();
        due("15: night", x.undo(), true);
        due("15: day", x.about(3), 0);
        due("15: seed", x.about(4), 10);
        due("15: dust", x.mirror(1, 2), 0);
        due("15: wipe", x.undo(), true);
        due("15: dust", x.mirror(3, 2), 7);
        due("15: crack", x.undo(), true);
        due("15: crack", x.mirror(1, 3), 0);
        due("15: breathe", x.undo(), true);
        due("15: dust", x.mirror(3, 2), 4);
        due("15: mark", x.undo(), true);
        due("15: face", x.face(0), 1);
        due("15: no more", x.undo(), false);
        due("16: kept", x.about(6), 5);
        due("16: mark", x.redo(), true);
        due("16: face", x.face(0), 3);
        due("16: breathe", x.redo(), true);
        due("16: dust", x.mirror(3, 2), 7);
        due("16: shows", x.shows(3, 0), 0);
        due("16: crack", x.redo(), true);
        due("16: crack", x.mirror(1, 3), 2);
        due("16: wrong act does nothing", x.mark(9, 0), NONE);
        due("16: wipe", x.redo(), true);
        due("16: night", x.redo(), true);
        due("16: day", x.about(3), 1);
        due("16: seed", x.about(4), 441);
        due("16: dust", x.mirror(1, 2), 1);
        due("16: no more", x.redo(), false);
        x.undo();
        x.undo();
        x.wipe(0);
        due("16: till another act", x.redo(), false);
        due("16: till another act", x.about(6), 0);
        due("15: four", x.about(5), 4);
        MirrorLies y = Checks.open(FOUR);
        for (int i = 0; i < 45; i++) {
            y.night();
        }
        due("15: 40 at most", y.about(5), 40);
        for (int i = 0; i < 40; i++) {
            due("15: undo", y.undo(), true);
        }
        due("15: the oldest went", y.undo(), false);
        due("15: the oldest went", y.about(3), 5);
        due("15: seed", y.about(4), 661);
        for (int i = 0; i < 40; i++) {
            due("16: redo", y.redo(), true);
        }
        due("16: no more", y.redo(), false);
        due("16: day", y.about(3), 45);
    }

    /** What is shown goes with each ACT, though images may be kept from one call to the next. */
    private void madeAnew() {
        MirrorLies x = Checks.open("marks 3;boy a has 0;mirror m lie day + dusty;");
        due("17: as told", x.hall(0, 0, -1, -1, -1), 0);
        x.crack(0, 1);
        due("13: cracked", x.hall(0, 0, -1, -1, -1), 3);
        x.undo();
        due("15: undone", x.hall(0, 0, -1, -1, -1), 0);
        x.redo();
        due("16: done again", x.hall(0, 0, -1, -1, -1), 3);
        x.undo();
        due("15: undone", x.hall(0, 0, -1, -1, -1), 0);
        x.night();
        due("14: a day later", x.hall(0, 0, -1, -1, -1), 3);
        x.breathe(0);
        due("11: dusty", x.hall(0, 0, -1, -1, -1), 1);
        x.wipe(0);
        due("12: clean", x.hall(0, 0, -1, -1, -1), 3);
        x.mark(0, 2);
        due("10: another face", x.hall(0, 0, -1, -1, -1), 7);
        x.mark(0, 2);
        x.image(0);
        x.crack(0, 1);
        due("13: cracked", x.hall(0, 0, -1, -1, -1), 5);
        x.back(0);
        due("56: back", x.hall(0, 0, -1, -1, -1), 3);
        x.crack(0, 2);
        Checks.feed(x, "marks 3;boy a has 0;mirror m lie 2;draw 5;");
        due("4: another school", x.school(), 1);
        due("4: another school", x.hall(0, 0, -1, -1, -1), 5);
        due("4: no crack", x.mirror(0, 3), 0);
        Checks.feed(x, "draw 5;");
        due("4: draw anew", x.school(), 0);
        String full = LIE + "1" + "+1".repeat(29) + ";mirror b lie 1" + "+1".repeat(29) + ";mirror c lie 1" + "+1".repeat(29) + ";";
        for (int i = 0; i < 20; i++) {
            Checks.feed(x, full);
            due("4: many schools", x.school(), 3);
        }
        MirrorLies old = new MirrorLies();
        for (int day = 1; day <= 9999; day++) {
            old.night();
        }
        due("14: the last day", old.about(3), 9999);
        due("14: above", old.night(), NONE);
        due("14: nothing is done", old.about(3), 9999);
    }

    private void halls() {
        MirrorLies x = Checks.open(FOUR);
        due("17: no mirror", x.hall(0, -1, 9, 9, 9), 1);
        due("17: one", x.hall(0, 0, -1, 2, 2), 0);
        due("17: two", x.hall(0, 0, 1, -1, -5), 1);
        due("17: three", x.hall(0, 3, 0, 1, -1), 6);
        due("17: four", x.hall(0, 3, 0, 1, 2), 0);
        due("17: twice", x.hall(0, 1, 1, -1, -1), 7);
        due("17: none such", x.hall(0, 0, 1, 2, 4), NONE);
        due("17: none such", x.hall(0, -2, -1, -1, -1), NONE);
        due("17: no boy", x.hall(3, -1, -1, -1, -1), NONE);
        due("17: no boy", x.hall(-1, 0, -1, -1, -1), NONE);
        int[][] rounds = {{0, 0, 2, 1}, {1, 1, 1, 1}, {0, 1, 3, 1}, {2, 1, 4, 1}, {0, 3, 2, 2}, {2, 2, 2, 2}, {1, 2, 3, 2}};
        for (int[] r : rounds) {
            due("18: first " + r[0] + " " + r[1], x.round(r[0], r[1], 0), r[2]);
            due("18: fewer " + r[0] + " " + r[1], x.round(r[0], r[1], 1), r[3]);
        }
        due("18: another", x.round(0, 0, 2), NONE);
        due("18: another", x.round(0, 0, -1), NONE);
        due("18: no boy", x.round(3, 0, 0), NONE);
        due("18: no mirror", x.round(0, 4, 0), NONE);
        int[][] facings = {{0, 0, 1, 1, 1}, {0, 1, 0, 3, 1}, {0, 2, 3, 3, 2}, {0, 3, 3, 1, 1}};
        for (int[] f : facings) {
            due("19: first " + f[1] + " " + f[2], x.facing(f[0], f[1], f[2], 0), f[3]);
            due("19: fewer " + f[1] + " " + f[2], x.facing(f[0], f[1], f[2], 1), f[4]);
        }
        due("19: another", x.facing(0, 0, 1, 2), NONE);
        due("19: no boy", x.facing(-1, 0, 1, 0), NONE);
        due("19: no mirror", x.facing(0, 4, 1, 0), NONE);
        due("19: no mirror", x.facing(0, 0, -1, 0), NONE);
        MirrorLies y = Checks.open("marks 3;boy a has 0;mirror p lie first;mirror s lie 2;");
        due("20: sights", y.sights(0), 4);
        due("20: no boy", y.sights(1), NONE);
        due("20: no boy", y.sights(-1), NONE);
        due("20: his own", Checks.open("boy a;").sights(0), 1);
        // Each mirror changes another mark: with four of five at most one face is not to be had.
        StringBuilder five = new StringBuilder("marks 5;boy a;");
        for (int i = 0; i < 5; i++) {
            five.append("mirror ").append((char) ('a' + i)).append(" lie ").append(i).append(';');
        }
        MirrorLies all = Checks.open(five.toString());
        due("20: four at most", all.sights(0), 31);
        all.breathe(0);
        all.breathe(0);
        due("20: fewer then", all.sights(0), 16);
        due("25: four", all.dream(0, 30), 4);
        due("41: the last", all.lies(3), 4);
        due("25: not five", Checks.open(five.toString()).dream(0, 31), NONE);
        due("22: mark", x.moled(0, 0), 1);
        due("22: mirrors", x.moled(0, 1), 2);
        due("22: the first", x.moled(1, 0), 0);
        due("22: the first", x.moled(1, 1), 1);
        due("22: another", x.moled(1, 2), NONE);
        due("22: no boy", x.moled(3, 0), NONE);
        due("22: none lies", Checks.open("boy a;" + LIE + "9;").moled(0, 0), NONE);
        due("22: none lies", Checks.open("boy a;" + LIE + "9;").moled(0, 1), NONE);
    }

    private void nights() {
        MirrorLies x = Checks.open(FOUR);
        due("21: now", x.blind(0), 0);
        due("21: behind 6", x.blind(6), 0);
        due("21: behind 7", x.blind(7), 8);
        due("21: nothing is done", x.about(3), 0);
        due("21: nothing is done", x.mirror(3, 2), 4);
        due("21: 200", x.blind(200) == NONE, false);
        due("21: 201", x.blind(201), NONE);
        due("21: -1", x.blind(-1), NONE);
        due("38: now", Checks.open(LIE + "0 dust 5;").dull(), 0);
        due("38: one night", Checks.open(LIE + "0 dust 4;draw 1;").dull(), 1);
        // 441 has 4, rest 1; 488 rest 1: two nights for 2 dust more; then 927 none, 70 none, 661, 628 none, 107: 1.
        due("38: three dust", Checks.open(LIE + "0 dust 2;draw 10;").dull(), 7);
        MirrorLies late = Checks.open("mirror a lie 0;mirror b lie 0;mirror c lie 0;mirror d lie 0 dust 4;"
            + "mirror e lie 0 dust 4;mirror f lie 0 dust 1;mirror g lie 0;draw 434;");
        due("38: 200 nights", late.dull(), 200);
        due("21: 199 nights", late.blind(199) == 127, false);
        due("21: 200 nights", late.blind(200), 127);
        // A seed whose rest by 5 is 4 is followed by such ones alone: the other four never get dust.
        MirrorLies never = Checks.open("mirror a lie 0;mirror b lie 0;mirror c lie 0;mirror d lie 0;mirror e lie 0;draw 4;");
        due("38: never", never.dull(), NONE);
        due("21: the fifth", never.blind(200), 16);
        due("38: no mirrors", new MirrorLies().dull(), 0);
        MirrorLies y = Checks.open("mirror a lie 0;mirror b lie 0;draw 0;");
        int due = y.dull();
        for (int i = 0; i < 200 && y.blind(0) != 3; i++) {
            y.night();
        }
        due("38: as nights go", due, y.blind(0) == 3 ? y.about(3) : NONE);
    }

    private void mends() {
        MirrorLies x = Checks.open(FOUR);
        due("23: two", x.mend(0, 0), 2);
        due("41: breathe", x.lies(0), 0);
        due("41: breathe", x.lies(1), 0);
        due("41: no third", x.lies(2), NONE);
        due("41: below", x.lies(-1), NONE);
        due("57: two lie", x.about(11), 2);
        due("23: one", x.mend(3, 0), 1);
        due("41: breathe", x.lies(0), 0);
        due("23: crack", x.mend(2, 0), 1);
        due("41: crack", x.lies(0), 11);
        due("23: none", x.mend(2, 1), NONE);
        due("57: nothing lies", x.about(11), 0);
        due("23: as it is", x.mend(0, 2), 0);
        due("57: nothing lies", x.about(11), 0);
        x.mend(0, 0);
        due("23: no mirror", x.mend(4, 0), NONE);
        due("57: nothing lies", x.about(11), 0);
        x.mend(0, 0);
        due("23: no boy", x.mend(0, 3), NONE);
        due("57: nothing lies", x.about(11), 0);
        due("23: nothing is done", x.about(5), 0);
        MirrorLies y = Checks.open("boy a;" + LIE + "9 * (dusty = 0) dust 1;");
        due("23: wipe", y.mend(0, 0), 1);
        due("41: wipe", y.lies(0), 1);
        MirrorLies far = Checks.open("marks 8;boy a has 1;" + LIE + "1 sees 1 to 7;");
        due("23: crack by 7", far.mend(0, 0), 1);
        due("41: crack by 7", far.lies(0), 17);
    }

    private void hangings() {
        MirrorLies x = Checks.open(FOUR);
        due("24: two", x.hang(0), 2);
        due("41: p", x.lies(0), 0);
        due("41: q", x.lies(1), 1);
        due("24: one", x.hang(1), 1);
        due("41: q", x.lies(0), 1);
        due("41: no more", x.lies(1), NONE);
        due("24: one", x.hang(2), 1);
        due("41: p", x.lies(0), 0);
        due("24: no boy", x.hang(3), NONE);
        due("57: nothing lies", x.about(11), 0);
        MirrorLies none = Checks.open("boy a has 5;mirror a lie 9 sees 0 to 4;");
        due("24: none", none.hang(0), NONE);
        due("57: nothing lies", none.about(11), 0);
        due("25: his own", x.dream(0, 1), 0);
        due("57: nothing lies", x.about(11), 0);
        due("25: one", x.dream(0, 3), 1);
        due("41: q", x.lies(0), 1);
        due("25: two", x.dream(0, 7), 2);
        due("41: q", x.lies(0), 1);
        due("41: s", x.lies(1), 3);
        due("25: three", x.dream(0, 6), 3);
        due("41: p", x.lies(0), 0);
        due("41: r", x.lies(1), 2);
        due("41: s", x.lies(2), 3);
        due("25: no boy", x.dream(3, 0), NONE);
        due("57: nothing lies", x.about(11), 0);
        due("25: no face", x.dream(0, 8), NONE);
        due("25: no face", x.dream(0, -1), NONE);
        due("25: none", none.dream(0, 33), NONE);
        due("26: one", x.hangs(0, 1), 0);
        due("26: two", x.hangs(0, 2), 3);
        due("26: one", x.hangs(1, 1), 1);
        due("26: n 0", x.hangs(0, 0), NONE);
        due("26: n 5", x.hangs(0, 5), NONE);
        due("26: no boy", x.hangs(3, 1), NONE);
        MirrorLies four = Checks.open("boy a;mirror a lie 9;mirror b lie 9;mirror c lie 9;mirror d lie 9;");
        due("26: of four", four.hangs(0, 4), 24);
        due("26: of four", four.hangs(0, 2), 12);
        due("26: too few mirrors", Checks.open("boy a;" + LIE + "9;").hangs(0, 2), 0);
        MirrorLies last = Checks.open("boy a has 0;mirror a lie 0;mirror b lie 1;mirror c lie 0 + 1;mirror d lie 0;");
        due("26: none twice", last.hangs(0, 2), 4);
        due("24: like ones", last.hang(0), 2);
        due("41: a", last.lies(0), 0);
        due("41: d", last.lies(1), 3);
    }

    private void compared() {
        MirrorLies x = Checks.open(FOUR);
        due("27: none", x.trues(), 0);
        due("28: a", x.honest(0), 0);
        due("28: b", x.honest(1), 2);
        due("28: c", x.honest(2), 1);
        due("28: no boy", x.honest(3), NONE);
        due("29: none", x.alike(), 0);
        due("57: nothing lies", x.about(11), 0);
        due("30: apart", x.apart(0, 1), 0);
        due("30: itself", x.apart(2, 2), NONE);
        due("30: no mirror", x.apart(0, 4), NONE);
        due("30: no mirror", x.apart(-1, 0), NONE);
        due("31: p", x.fixed(0, 0), 1);
        due("31: p", x.fixed(0, 1), 0);
        due("31: q", x.fixed(1, 1), 7);
        due("31: r", x.fixed(2, 0), 0);
        due("31: r", x.fixed(2, 1), NONE);
        due("31: another", x.fixed(0, 2), NONE);
        due("31: no mirror", x.fixed(4, 0), NONE);
        MirrorLies tie = Checks.open("marks 3;" + LIE + "3 * (many < 2);");
        due("31: how many", tie.fixed(0, 0), 4);
        due("31: of like ones the least", tie.fixed(0, 1), 1);
        due("32: first 0", x.lied(0, 0), 4);
        due("32: first 1", x.lied(0, 1), 2);
        due("32: many 2", x.lied(1, 2), 3);
        due("32: what it does not see", Checks.open(LIE + "0 sees 1 to 1;").lied(0, 0), 64);
        due("32: no mark", x.lied(0, 3), NONE);
        due("32: no mirror", x.lied(4, 0), NONE);
        due("33: how many", x.from(0, 0, 0), 4);
        due("33: least", x.from(0, 0, 1), 0);
        due("33: least", x.from(0, 4, 1), 5);
        due("33: none", x.from(2, 4, 0), 0);
        due("33: none", x.from(2, 4, 1), NONE);
        due("33: another", x.from(0, 0, 2), NONE);
        due("33: no image", x.from(0, 8, 0), NONE);
        due("33: no mirror", x.from(4, 0, 0), NONE);
        due("34: a b", x.twins(0, 1), 0);
        due("34: a c", x.twins(0, 2), 1);
        due("34: itself", x.twins(0, 0), NONE);
        due("34: no boy", x.twins(0, 3), NONE);
        due("35: p q", x.crossed(0, 1), 8);
        due("35: r s", x.crossed(2, 3), 8);
        due("35: itself", x.crossed(1, 1), 0);
        due("35: no mirror", x.crossed(0, 4), NONE);
        due("36: s", x.undoes(3), 8);
        due("36: p", x.undoes(0), 0);
        due("36: no mirror", x.undoes(4), NONE);
        due("36: one that it isn't", Checks.open("mirror a lie 0;mirror b lie 1;mirror c lie 0;").undoes(0), 5);
        due("37: p", x.longest(0, 0), 1);
        due("37: least face", x.longest(0, 1), 0);
        due("37: least face", x.longest(3, 1), 0);
        due("37: s", x.longest(3, 0), 2);
        due("37: another", x.longest(3, 2), NONE);
        due("37: no mirror", x.longest(4, 0), NONE);
        MirrorLies late = Checks.open("marks 2;" + LIE + "(many = 0) * 9;");
        due("37: how long", late.longest(0, 0), 2);
        due("37: least face", late.longest(0, 1), 2);
        due("40: two", x.whose(0, 0), 5);
        due("40: b", x.whose(1, 7), 2);
        due("40: none", x.whose(2, 4), 0);
        due("40: no image", x.whose(0, 8), NONE);
        due("40: no mirror", x.whose(4, 0), NONE);
        x.breathe(3);
        due("27: blind", x.trues(), 8);
        due("31: blind", x.fixed(3, 0), 8);
        due("27: the first", Checks.open("mirror a lie 9;mirror b lie 0;mirror c lie 9;").trues(), 5);
        due("29: the last two", Checks.open("mirror a lie 0;mirror b lie 9;mirror c lie 9;").alike(), 1);
        MirrorLies first = Checks.open("mirror a lie 0;mirror b lie 1;mirror c lie 0;");
        due("29: the first", first.alike(), 1);
        due("41: less", first.lies(0), 0);
        due("41: greater", first.lies(1), 2);
        first.crack(0, 2);
        due("29: none", first.alike(), 0);
        due("57: nothing lies", first.about(11), 0);
        MirrorLies y = Checks.open("mirror a lie 5;mirror b lie 1 + 1;mirror c lie 2;mirror d lie 2 sees 0 to 4;mirror e lie 2;");
        due("29: twos", y.alike(), 3);
        due("41: less", y.lies(0), 1);
        due("41: greater", y.lies(1), 2);
        due("30: far", y.apart(2, 3), 32);
        due("27: what it does not see", Checks.open(LIE + "9 sees 0 to 4;").trues(), 0);
    }

    private void boxes() {
        MirrorLies x = Checks.open(FOUR);
        due("39: nothing kept", x.changed(0), NONE);
        due("56: nothing kept", x.back(0), NONE);
        x.night();
        due("55: day", x.image(0), 1);
        due("55: none such", x.image(3), NONE);
        due("55: none such", x.image(-1), NONE);
        due("39: nothing", x.changed(0), 0);
        due("39: no box", x.changed(3), NONE);
        due("39: no box", x.changed(-1), NONE);
        x.crack(1, 1);
        x.mark(0, 1);
        due("39: q", x.changed(0), 2);
        x.breathe(0);
        x.breathe(0);
        due("39: p and q", x.changed(0), 3);
        x.wipe(0);
        x.crack(1, 2);
        due("39: nothing", x.changed(0), 0);
        x.night();
        due("39: by the day", x.changed(0), 0);
        x.undo();
        x.undo();
        due("56: back", x.back(0), 1);
        due("56: face", x.face(0), 1);
        due("56: seed", x.about(4), 441);
        due("56: crack", x.mirror(1, 3), 0);
        due("56: dust", x.mirror(1, 2), 1);
        due("56: no acts", x.about(5), 0);
        due("56: no acts", x.about(6), 0);
        x.wipe(3);
        x.mark(1, 0);
        due("56: back again", x.back(0), 1);
        due("56: dust", x.mirror(3, 2), 4);
        due("56: face", x.face(1), 7);
        due("56: shows", x.shows(3, 0), 0);
        due("56: no box", x.back(3), NONE);
        due("56: no box", x.back(-1), NONE);
        due("55: another box", x.image(2), 1);
        MirrorLies y = Checks.open("mirror a lie day;mirror b lie 1;");
        y.image(1);
        y.night();
        due("39: by the day", y.changed(1), 1);
        MirrorLies z = Checks.open("mirror a lie 0 sees 1 to 2;");
        z.image(0);
        z.crack(0, 3);
        due("39: not to be seen", z.changed(0), 0);
        z.crack(0, 4);
        due("39: to be seen", z.changed(0), 1);
    }

    private void looks() {
        MirrorLies x = Checks.open(FOUR);
        due("42: no mirror", x.look(4, 0), NONE);
        due("42: no image", x.look(0, 8), NONE);
        due("42: no image", x.look(0, -1), NONE);
        due("42: does not see", x.look(2, 4), NONE);
        due("57: no looks", x.about(7), 0);
        for (int i = 0; i < 30; i++) {
            due("42: number", x.look(2, 3), i);
        }
        due("42: there are 30", x.look(2, 3), NONE);
        due("57: looks", x.about(7), 30);
        due("43: untell", x.untell(7), true);
        due("43: already", x.untell(7), false);
        due("43: none such", x.untell(30), false);
        due("43: none such", x.untell(-1), false);
        due("42: untold ones are there", x.look(2, 3), NONE);
        due("44: later", x.later(1000), 1000);
        due("44: 0", x.later(0), 1000);
        due("44: 1001", x.later(1001), NONE);
        due("44: -1", x.later(-1), NONE);
        for (int i = 2; i <= 99; i++) {
            due("44: later", x.later(1000), 1000 * i);
        }
        due("44: later", x.later(999), 99999);
        due("44: above", x.later(2), NONE);
        due("44: 100,000", x.later(1), 100000);
        due("57: time", x.about(8), 100000);
    }

    private void known() {
        MirrorLies x = Checks.open(FOUR);
        x.look(0, 0);
        x.later(5);
        x.look(2, 2);
        x.later(5);
        x.untell(0);
        int[][] likes = {{-1, 8, 0}, {0, 4, 0}, {4, 4, 0}, {5, 2, 0}, {9, 2, 0}, {10, 2, 0}, {99, 2, 0}};
        for (int[] l : likes) {
            due("45: how many at " + l[0], x.like(0, l[0]), l[1]);
            due("45: least at " + l[0], x.like(1, l[0]), l[2]);
        }
        due("45: another", x.like(2, 0), NONE);
        x.untell(1);
        due("45: untold at once", x.like(0, 10), 8);
        due("45: known before", x.like(0, 9), 2);
        due("46: who", x.who(5), 4);
        due("46: who", x.who(0), 5);
        due("46: who", x.who(-1), 7);
        due("47: fewest", x.spread(0, 0), 0);
        due("47: most", x.spread(1, 0), 1);
        due("47: most", x.spread(1, -1), 3);
        due("47: another", x.spread(2, 0), NONE);
        due("48: in none", x.sure(0, 5), 0);
        due("48: in some", x.sure(2, 5), -2);
        due("48: no mark", x.sure(3, 5), NONE);
        due("48: no mark", x.sure(-1, 5), NONE);
        due("49: upper", x.odds(2, 0, 0), 1);
        due("49: lower", x.odds(2, 1, 0), 4);
        due("49: lowest terms", x.odds(2, 0, -1), 1);
        due("49: lowest terms", x.odds(2, 1, -1), 2);
        due("49: none of them", x.odds(0, 0, 5), 0);
        due("49: none of them", x.odds(0, 1, 5), 1);
        due("49: another part", x.odds(0, 2, 5), NONE);
        due("49: no mark", x.odds(3, 0, 5), NONE);
        due("50: mirror", x.ask(0, 0), 1);
        due("50: left", x.ask(1, 0), 1);
        due("50: of all", x.ask(0, -1), 3);
        due("50: another", x.ask(2, 0), NONE);
        due("51: p", x.mean(0, 0, 0), 4);
        due("51: p", x.mean(0, 1, 0), 1);
        due("51: r", x.mean(2, 0, 0), 3);
        due("51: r", x.mean(2, 1, 0), 2);
        due("51: another part", x.mean(2, 2, 0), NONE);
        due("51: no mirror", x.mean(4, 0, 0), NONE);
        x.look(3, 5);
        due("45: one", x.like(1, 10), 1);
        due("48: in all", x.sure(0, 10), 1);
        due("45: as mirrors are now", x.wipe(3), 4);
        x.crack(3, 1);
        due("45: as mirrors are now", x.like(1, 10), 4);
        x.look(3, 6);
        due("45: none", x.like(0, 10), 0);
        due("45: none", x.like(1, 10), NONE);
        due("46: none", x.who(10), 0);
        due("47: none", x.spread(0, 10), NONE);
        due("48: none", x.sure(0, 10), NONE);
        due("49: none", x.odds(0, 0, 10), NONE);
        due("50: none", x.ask(0, 10), NONE);
        due("51: none", x.mean(0, 0, 10), NONE);
        due("52: none", x.course(0, 10), NONE);
        due("53: none", x.tell(0, 10), 0);
        due("53: none", x.tell(1, 10), 0);
        due("54: none", x.glass(0, 10), 0);
        due("54: none", x.glass(1, 10), 0);
        due("50: no mirrors", new MirrorLies().ask(0, 0), NONE);
        MirrorLies flat = Checks.open("marks 8;" + LIE + "9 - 9 * (first = 0) sees 0 to 0;");
        due("50: all alike", flat.ask(0, 0), 0);
        due("50: all alike", flat.ask(1, 0), 256);
        due("51: all alike", flat.mean(0, 0, 0), 256);
        due("51: all alike", flat.mean(0, 1, 0), 1);
        due("50: of like ones the first", Checks.open("mirror a lie 0;mirror b lie 1;").ask(0, 0), 0);
    }

    private void telling() {
        MirrorLies x = Checks.open(FOUR);
        due("52: of eight", x.course(0, 0), 1);
        due("52: s", x.course(1, 0), 3);
        due("53: how many", x.tell(0, 0), 1);
        due("53: s", x.tell(1, 0), 8);
        due("54: prices", x.glass(0, 0), 2);
        due("54: p and q", x.glass(1, 0), 3);
        x.look(0, 0);
        due("52: of four", x.course(0, 0), 1);
        due("52: q", x.course(1, 0), 1);
        due("53: of four", x.tell(1, 0), 2);
        due("54: of four", x.glass(0, 0), 1);
        due("54: the least set", x.glass(1, 0), 2);
        due("52: another", x.course(2, 0), NONE);
        due("52: another", x.course(-1, 0), NONE);
        due("53: another", x.tell(2, 0), NONE);
        due("54: another", x.glass(2, 0), NONE);
        x.look(1, 1);
        due("52: of one", x.course(0, 0), 0);
        due("52: of one", x.course(1, 0), NONE);
        due("53: of one", x.tell(0, 0), 0);
        due("54: of one", x.glass(1, 0), 0);
        MirrorLies two = Checks.open("marks 2;mirror a lie 9 sees 0 to 0 price 7;mirror b lie 9 sees 1 to 1 price 8;");
        due("52: two looks", two.course(0, 0), 2);
        due("52: the first", two.course(1, 0), 0);
        due("53: two", two.tell(0, 0), 2);
        due("53: two", two.tell(1, 0), 3);
        due("54: two", two.glass(0, 0), 15);
        MirrorLies dark = Checks.open("marks 2;mirror a lie 9 sees 0 to 0;");
        due("52: can't be known", dark.course(0, 0), NONE);
        due("52: can't be known", dark.course(1, 0), NONE);
        due("53: all do not", dark.tell(0, 0), NONE);
        due("53: all do not", dark.tell(1, 0), NONE);
        due("54: all do not", dark.glass(0, 0), NONE);
        MirrorLies many = Checks.open("marks 4;mirror a lie 0;mirror b lie 9 sees 0 to 0;");
        due("52: more than 10", many.course(0, 0), -2);
        due("52: more than 10", many.course(1, 0), -2);
        due("52: another", many.course(2, 0), NONE);
        many.look(1, 1);
        due("52: eight of them", many.course(0, 0), 1);
        // Of the 16 faces 8 have mark 0; of those with one mark 3 that have it not are shown with it, 1 without.
        MirrorLies ten = Checks.open("marks 4;mirror a lie 4 - 4 * (many = 1) sees 0 to 0;mirror b lie 9;");
        ten.look(0, 1);
        due("52: of ten", ten.like(0, 0), 10);
        due("52: of ten", ten.course(0, 0), 1);
        due("52: of ten", ten.course(1, 0), 1);
        MirrorLies eleven = Checks.open("marks 4;mirror a lie 4 * (many > 1) sees 0 to 0;mirror b lie 9;");
        eleven.look(0, 1);
        due("52: of eleven", eleven.like(0, 0), 11);
        due("52: of eleven", eleven.course(0, 0), -2);
        // By what a shows b or c is looked into: b parts 0 and 2 alone, c parts 1 and 3 alone.
        MirrorLies chosen = Checks.open("marks 2;mirror b lie 9 - 8 * (many = 2) sees 1 to 1;"
            + "mirror c lie 9 - 8 * (first = 1) sees 1 to 1;mirror a lie 9 sees 0 to 0;");
        due("52: chosen", chosen.course(0, 0), 2);
        due("52: chosen", chosen.course(1, 0), 2);
        due("53: all three", chosen.tell(0, 0), 3);
        due("53: all three", chosen.tell(1, 0), 7);
        // Free mirrors: the least set as bits has none that is not needed.
        MirrorLies free = Checks.open("marks 2;mirror a lie 9 sees 0 to 0 price 0;mirror b lie 9 price 0;mirror c lie 9 price 0;");
        due("54: free", free.glass(0, 0), 0);
        due("54: free", free.glass(1, 0), 2);
        due("53: the least set", free.tell(1, 0), 2);
    }

    private void abouts() {
        MirrorLies x = Checks.open(FOUR);
        due("57: another", x.about(-1), NONE);
        due("57: another", x.about(12), NONE);
        x.night();
        x.night();
        x.undo();
        x.hang(0);
        x.look(0, 0);
        x.later(3);
        Checks.feed(x, "boy a;");
        int[] all = {4, 3, 3, 1, 441, 1, 1, 1, 3, 6, 5, 1};
        for (int what = 0; what < all.length; what++) {
            due("57: about " + what, x.about(what), all[what]);
        }
        due("57: a unit in another", Checks.open(LIE + "(1 + (day));").about(10), 4);
        int[] odd = {Integer.MIN_VALUE, Integer.MAX_VALUE, -2, 255, 256, 1 << 30, 31, 32, 64};
        for (int n : odd) {
            due("wrong " + n, x.face(n) + x.sights(n) + x.blind(n == 31 || n == 32 || n == 64 ? -1 : n == 255 ? 300 : n), -3);
            due("wrong " + n, x.lie(n, n) + x.shows(0, n) + x.mark(n, n) + x.crack(0, n) + x.round(n, n, n), -5);
            due("wrong " + n, x.look(n, n) + x.image(n) + x.back(n) + x.changed(n) + x.lies(n), -5);
            due("wrong " + n, x.hall(0, 0, n == -2 ? 9 : n, 0, 0) + x.mend(n, n) + x.dream(0, n) + x.hangs(0, n), -4);
            due("wrong " + n, x.sure(n, n) + x.odds(n, 0, n) + x.mean(n, 0, n) + x.about(n == -2 ? -7 : n), -4);
        }
    }
}
