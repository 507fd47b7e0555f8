/** ==== 2 and promises 6 to 16, 55, 56: LIE and IMAGE at their edges, the ACTS at theirs, UNDO, REDO, the BOXES. */
final class ActEdges extends Edges {
    private static final String LEAST_INT = "2048 * 2048 * 512";

    ActEdges(Sentences sentences) {
        super(sentences);
    }

    @Override
    void all() {
        faces();
        words();
        wrapping();
        divided();
        truths();
        marksOfLies();
        cracks();
        dust();
        images();
        marksComeAndGo();
        breaths();
        seeds();
        nightsDust();
        fortyKept();
        fortyStates();
        redone();
        undoneExactly();
        face();
        mirror();
        lieAndShows();
        mark();
        breatheAndWipe();
        crack();
        night();
        undoAndRedo();
        boxes();
        back();
    }

    /** About which MARK of eight a formula lies on a FACE with the MARKS 3, 4, 6. */
    private static int worth(String formula) {
        return open("marks 8;" + LIE + formula + ";").lie(0, 0b1011000);
    }

    private void faces() {
        says(TERMS, "A FACE is a set of MARKS, as bits (bit 0: MARK 0)");
        due(open("boy a;").face(0), 0);
        due(open("boy a has 0;").face(0), 1);
        due(open("marks 8;boy a has 7;").face(0), 128);
        due(open("marks 8;boy a has 7 6 5 4 3 2 1 0;").face(0), 255);
        due(open("marks 1;boy a has 0;").face(0), 1);
    }

    private void words() {
        says(TERMS, "by the day (0 at first)");
        MirrorLies x = open("marks 3;" + LIE + "day;");
        due(x.lie(0, 0), 0);
        x.night();
        due(x.lie(0, 0), 1);
        x.night();
        due(x.lie(0, 0), 2);
        x.night();
        due(x.lie(0, 0), NONE);
        says(TERMS, "many (how many MARKS there are)");
        MirrorLies many = open("marks 8;" + LIE + "many;mirror b lie many - 1;");
        due(many.lie(0, 0), 0);
        due(many.lie(0, 127), 7);
        due(many.lie(0, 128), 1);
        due(many.lie(0, 255), NONE);
        due(many.lie(1, 255), 7);
        due(many.lie(1, 0), NONE);
        says(TERMS, "first (the least of these; WIDTH, if there is none)");
        for (int width = 1; width <= 8; width++) {
            MirrorLies first = open("marks " + width + ";" + LIE + "first;mirror b lie first - 1;");
            due(first.lie(0, 0), NONE);
            due(first.lie(1, 0), width - 1);
            due(first.lie(0, 1 << width - 1), width - 1);
            due(first.lie(0, (1 << width) - 1), 0);
        }
        says(TERMS, "dusty (the MIRROR's dust;");
        MirrorLies dusty = open(LIE + "dusty;mirror b lie dusty dust 4;");
        due(dusty.lie(0, 0), 0);
        due(dusty.lie(1, 0), 4);
        dusty.breathe(0);
        due(dusty.lie(0, 0), 3);
        dusty.wipe(1);
        due(dusty.lie(1, 0), 0);
    }

    private void wrapping() {
        says(TERMS, "ints, wrapping;");
        due(worth(LEAST_INT + " < 0"), 1);
        due(worth(LEAST_INT + " - 1 > 0"), 1);
        due(worth("2048 * 2048 * 511 + 2048 * 2048 < 0"), 1);
        due(worth("2048 * 2048 * 1024"), 0);
        due(worth("2048 * 2048 * 1024 + 3"), 3);
        due(worth(LEAST_INT + " + " + LEAST_INT + " + 5"), 5);
        due(worth("0 - " + LEAST_INT + " < 0"), 1);
        due(worth("9999 * 9999 * 9999 / 9999 / 9999 = 9999"), 0);
        // The least int by -1 is itself, with no rest.
        due(worth("(" + LEAST_INT + " / (0 - 1) = " + LEAST_INT + ") + 3"), 4);
        due(worth(LEAST_INT + " % (0 - 1) + 6"), 6);
    }

    private void divided() {
        says(TERMS, "/ cut, % its rest, both by 0: 0;");
        due(worth("7 / 2"), 3);
        due(worth("1 / 2"), 0);
        due(worth("(0 - 1) / 2"), 0);
        due(worth("(0 - 7) / 2 + 5"), 2);
        due(worth("7 / (0 - 2) + 5"), 2);
        due(worth("(0 - 7) / (0 - 2)"), 3);
        due(worth("7 % 4"), 3);
        due(worth("8 % 4"), 0);
        due(worth("(0 - 7) % 4 + 5"), 2);
        due(worth("(0 - 7) % 4"), NONE);
        due(worth("7 % (0 - 4)"), 3);
        due(worth("5 / 0"), 0);
        due(worth("5 % 0"), 0);
        due(worth("0 / 0"), 0);
        due(worth("0 % 0"), 0);
        due(worth("5 / 0 + 3"), 3);
        due(worth("5 % (many - 3) + 4"), 4);
        due(worth("5 / day + 2"), 2);
    }

    private void truths() {
        says(TERMS, "relations, and, or, not are 1 or 0, of what is not 0)");
        due(worth("(3 < 4) + 4"), 5);
        due(worth("(4 < 4) + 4"), 4);
        due(worth("(5 < 4) + 4"), 4);
        due(worth("(5 > 4) + 4"), 5);
        due(worth("(4 > 4) + 4"), 4);
        due(worth("(3 > 4) + 4"), 4);
        due(worth("(4 = 4) + 4"), 5);
        due(worth("(4 = 3) + 4"), 4);
        due(worth("(0 - 1 < 0) + 4"), 5);
        due(worth("(0 - 5 > 0 - 6) + 4"), 5);
        due(worth("2 and 6"), 1);
        due(worth("(0 - 2) and (0 - 4)"), 1);
        due(worth("2 and 0"), 0);
        due(worth("0 and 2"), 0);
        due(worth("(0 and 0) + 2"), 2);
        due(worth("0 or 6"), 1);
        due(worth("6 or 0"), 1);
        due(worth("6 or 2"), 1);
        due(worth("0 or 0 - 3"), 1);
        due(worth("(0 or 0) + 2"), 2);
        due(worth("not 0"), 1);
        due(worth("not 7"), 0);
        due(worth("not (0 - 7)"), 0);
        due(worth("not not 7"), 1);
        due(worth("1 or 0 and 0"), 1);
        due(worth("not 1 = 0"), 1);
        due(worth("not 0 + 1"), 0);
        due(worth("not 0 and 0"), 0);
        due(worth("3 + (not 0)"), 4);
        due(worth("3 + 2 * (not 7)"), 3);
    }

    private void marksOfLies() {
        says(TERMS, "if that is a MARK's number");
        for (int width = 1; width <= 8; width++) {
            MirrorLies x = open("marks " + width + ";mirror a lie 0;mirror b lie " + (width - 1) + ";mirror c lie " + width
                + ";mirror d lie 0 - 1;mirror e lie 9999;mirror f lie " + LEAST_INT + ";");
            due(x.lie(0, 0), 0);
            due(x.lie(1, 0), width - 1);
            for (int mirror = 2; mirror < 6; mirror++) {
                due(x.lie(mirror, 0), NONE);
            }
        }
    }

    private void cracks() {
        says(TERMS, "the MIRROR lies about the MARK as many farther on as its CRACK tells (0 at first; beyond the last one it goes"
            + " on at MARK 0)");
        MirrorLies x = open("mirror a lie 5;mirror b lie 0;mirror c lie 6;mirror d lie 0 - 1;");
        due(x.mirror(0, 3), 0);
        for (int crack = 1; crack <= 6; crack++) {
            for (int mirror = 0; mirror < 4; mirror++) {
                x.crack(mirror, 1);
            }
            due(x.lie(0, 0), (5 + crack) % 6);
            due(x.lie(1, 0), crack % 6);
            // What is no MARK's number is not made one by a CRACK.
            due(x.lie(2, 0), NONE);
            due(x.lie(3, 0), NONE);
        }
        MirrorLies one = open("marks 1;" + LIE + "0;");
        one.crack(0, 7);
        due(one.lie(0, 0), 0);
        MirrorLies eight = open("marks 8;" + LIE + "7;");
        eight.crack(0, 7);
        due(eight.lie(0, 0), 6);
    }

    private void dust() {
        says(TERMS, "else, or with 5 dust and more, about none");
        for (int dust = 0; dust <= 9; dust++) {
            MirrorLies x = open(LIE + "2 dust " + dust + ";");
            due(x.lie(0, 0), dust < 5 ? 2 : NONE);
            due(x.shows(0, 0), dust < 5 ? 4 : 0);
            due(x.trues(), dust < 5 ? 0 : 1);
        }
    }

    private void images() {
        says(TERMS, "the MARK about which it lies is there if it is not, and the other way about;");
        MirrorLies x = open("marks 8;mirror a lie 0;mirror b lie 7;mirror c lie 8;");
        due(x.shows(0, 0), 1);
        due(x.shows(0, 1), 0);
        due(x.shows(0, 255), 254);
        due(x.shows(1, 0), 128);
        due(x.shows(1, 128), 0);
        due(x.shows(1, 255), 127);
        due(x.shows(2, 0), 0);
        due(x.shows(2, 255), 255);
        says(TERMS, "without MARKS that it does not see");
        MirrorLies part = open("mirror a lie 0 sees 2 to 4;mirror b lie 2 sees 2 to 4;mirror c lie 9 sees 5 to 5;"
            + "mirror d lie 2 sees 2 to 4 dust 5;mirror e lie 4 sees 2 to 4;mirror f lie 5 sees 0 to 4;");
        due(part.shows(0, 63), 28);
        due(part.shows(0, 0), 0);
        due(part.lie(0, 0), 0);
        due(part.shows(1, 0), 4);
        due(part.shows(1, 63), 24);
        due(part.shows(2, 63), 32);
        due(part.shows(2, 31), 0);
        due(part.shows(3, 63), 28);
        due(part.shows(4, 63), 12);
        due(part.shows(5, 32), 0);
        due(part.shows(5, 63), 31);
    }

    private void marksComeAndGo() {
        says(TERMS, "ACTS: a MARK of a BOY comes, or goes;");
        MirrorLies x = open("marks 8;boy a;boy b has 0 1 2 3 4 5 6 7;");
        due(x.mark(0, 0), 1);
        due(x.mark(0, 7), 129);
        due(x.mark(0, 0), 128);
        due(x.mark(0, 7), 0);
        due(x.mark(1, 7), 127);
        due(x.mark(1, 7), 255);
        due(x.face(0), 0);
    }

    private void breaths() {
        says(TERMS, "3 dust more (9 at most)");
        for (int dust = 0; dust <= 9; dust++) {
            MirrorLies x = open(LIE + "0 dust " + dust + ";mirror b lie 0;");
            due(x.breathe(0), Math.min(9, dust + 3));
            due(x.mirror(0, 2), Math.min(9, dust + 3));
            due(x.mirror(1, 2), 0);
        }
        says(TERMS, "it is WIPED: no dust;");
        for (int dust = 0; dust <= 9; dust++) {
            MirrorLies x = open(LIE + "0 dust " + dust + ";mirror b lie 0 dust 9;");
            due(x.wipe(0), dust);
            due(x.mirror(0, 2), 0);
            due(x.mirror(1, 2), 9);
        }
        says(TERMS, "its CRACK is so much more, modulo WIDTH;");
        for (int width = 1; width <= 8; width++) {
            MirrorLies x = open("marks " + width + ";" + LIE + "0;mirror b lie 0;");
            int crack = 0;
            for (int by = 1; by <= 7; by++) {
                crack = (crack + by) % width;
                due(x.crack(0, by), crack);
                due(x.mirror(0, 3), crack);
            }
            due(x.mirror(1, 3), 0);
        }
    }

    private void seeds() {
        says(TERMS, "the SEED (draw, at first) becomes its 137-fold and 71 more, modulo 1,000");
        int[][] seeds = {{0, 71}, {6, 893}, {7, 30}, {817, 0}, {744, 999}, {999, 934}, {1, 208}};
        for (int[] seed : seeds) {
            MirrorLies x = open("draw " + seed[0] + ";");
            due(x.about(4), seed[0]);
            due(x.night(), 1);
            due(x.about(4), seed[1]);
        }
        says(TERMS, "a NIGHT: the day goes up by 1");
        MirrorLies x = new MirrorLies();
        due(x.about(3), 0);
        due(x.night(), 1);
        due(x.night(), 2);
        due(x.about(3), 2);
        due(x.about(4), 798);
    }

    /** How much dust comes on which MIRROR of so many in the NIGHT behind a draw. */
    private void oneNight(int count, int draw, int mirror, int dust) {
        MirrorLies x = open(mirrors(count, "0") + "draw " + draw + ";");
        x.night();
        for (int i = 0; i < count; i++) {
            due(x.mirror(i, 2), i == mirror ? dust : 0);
        }
    }

    private void nightsDust() {
        says(TERMS, "on the MIRROR of its rest by how many there are comes dust");
        // 417 goes on to 200, 644 to 299: 2 dust each.
        int[] rests = {0, 0, 0, 2, 0, 0, 2, 4, 0, 2};
        int[] others = {0, 0, 1, 2, 3, 4, 5, 5, 3, 2};
        for (int count = 1; count <= 9; count++) {
            oneNight(count, 417, rests[count], 2);
            oneNight(count, 644, others[count], 2);
        }
        says(TERMS, "the rest by 3 of a hundredth of the SEED, cut (9 at most)");
        // Draws that go on to 0, 99, 100, 199, 200, 299, 300, 800, 900, 999.
        int[][] draws = {{817, 0}, {44, 0}, {117, 1}, {344, 1}, {417, 2}, {644, 2}, {717, 0}, {217, 2}, {517, 0}, {744, 0}};
        for (int[] draw : draws) {
            oneNight(1, draw[0], 0, draw[1]);
        }
        for (int dust = 0; dust <= 9; dust++) {
            MirrorLies x = open(LIE + "0 dust " + dust + ";draw 417;");
            x.night();
            due(x.mirror(0, 2), Math.min(9, dust + 2));
        }
        MirrorLies none = new MirrorLies();
        due(none.night(), 1);
        due(none.undo(), true);
        due(none.redo(), true);
        due(none.about(4), 71);
    }

    private void fortyKept() {
        says(TERMS, "40 at most are kept, the oldest go");
        for (int acts = 39; acts <= 45; acts++) {
            MirrorLies x = open(BOY + LIE + "0;");
            for (int i = 0; i < acts; i++) {
                x.night();
            }
            due(x.about(5), Math.min(40, acts));
            int undone = 0;
            while (undone < 50 && x.undo()) {
                undone++;
            }
            due(undone, Math.min(40, acts));
            due(x.about(3), acts - undone);
            due(x.about(6), undone);
            int redone = 0;
            while (redone < 50 && x.redo()) {
                redone++;
            }
            due(redone, undone);
            due(x.about(3), acts);
            due(x.about(5), undone);
        }
        // The oldest goes whatever it was: here a MARK that came.
        MirrorLies x = open(BOY + LIE + "0;");
        x.mark(0, 3);
        x.crack(0, 5);
        for (int i = 0; i < 39; i++) {
            x.wipe(0);
        }
        while (x.about(5) > 0 && x.undo()) {
            due(x.face(0), 8);
        }
        due(x.mirror(0, 3), 0);
        due(x.face(0), 8);
        // Those taken back make room: another ACT behind them is kept, they are not.
        MirrorLies y = open(LIE + "0;");
        for (int i = 0; i < 40; i++) {
            y.night();
        }
        y.undo();
        y.undo();
        y.breathe(0);
        due(y.about(5), 39);
        due(y.about(6), 0);
        y.night();
        due(y.about(5), 40);
        y.night();
        due(y.about(5), 40);
        for (int i = 0; i < 40; i++) {
            due(y.undo(), true);
        }
        due(y.about(3), 1);
        due(y.undo(), false);
    }

    private void fortyStates() {
        says(TERMS, "40 at most are kept, the oldest go");
        MirrorLies x = open("marks 3;boy a;" + LIE + "0;draw 417;");
        String[] states = new String[61];
        for (int act = 0; act < 60; act++) {
            states[act] = stateNow(x);
            switch (act % 6) {
                case 0: x.mark(0, act % 3); break;
                case 1: case 3: x.night(); break;
                case 2: x.breathe(0); break;
                case 4: x.crack(0, 1 + act % 7); break;
                default: x.wipe(0); break;
            }
        }
        states[60] = stateNow(x);
        for (int act = 59; act >= 20; act--) {
            due(x.undo(), true);
            due(stateNow(x).equals(states[act]), true);
        }
        due(x.undo(), false);
        for (int act = 21; act <= 60; act++) {
            due(x.redo(), true);
            due(stateNow(x).equals(states[act]), true);
        }
        due(x.redo(), false);
    }

    private void redone() {
        says(TERMS, "UNDO takes back the latest ACT that was not, REDO does that again which was taken back last (till another ACT)");
        MirrorLies x = open(BOY + LIE + "0;");
        x.mark(0, 0);
        x.mark(0, 1);
        x.mark(0, 2);
        due(x.undo(), true);
        due(x.face(0), 3);
        due(x.undo(), true);
        due(x.face(0), 1);
        due(x.redo(), true);
        due(x.face(0), 3);
        due(x.undo(), true);
        due(x.undo(), true);
        due(x.face(0), 0);
        due(x.redo(), true);
        due(x.redo(), true);
        due(x.redo(), true);
        due(x.face(0), 7);
        due(x.redo(), false);
        x.undo();
        // What is no ACT takes nothing away from REDO; neither does an ACT that is refused.
        x.look(0, 0);
        x.later(1);
        x.image(0);
        x.hang(0);
        x.mark(1, 0);
        x.crack(0, 8);
        x.breathe(1);
        x.wipe(1);
        x.end(-1);
        Checks.feed(x, "?");
        due(x.school(), NONE);
        due(x.about(6), 1);
        due(x.about(5), 2);
        due(x.redo(), true);
        due(x.face(0), 7);
        x.undo();
        due(x.wipe(0), 0);
        due(x.about(6), 0);
        due(x.redo(), false);
        due(x.undo(), true);
        due(x.face(0), 3);
        due(x.redo(), true);
    }

    private void undoneExactly() {
        says(15, "UNDO: true");
        MirrorLies x = open("marks 3;boy a;" + LIE + "0 dust 8;draw 417;");
        String[] states = new String[8];
        for (int act = 0; act < 7; act++) {
            states[act] = stateNow(x);
            switch (act) {
                case 0: due(x.breathe(0), 9); break;
                case 1: due(x.night(), 1); break;
                case 2: due(x.wipe(0), 9); break;
                case 3: due(x.crack(0, 7), 1); break;
                case 4: due(x.crack(0, 2), 0); break;
                case 5: due(x.mark(0, 2), 4); break;
                default: due(x.night(), 2); break;
            }
        }
        states[7] = stateNow(x);
        for (int act = 6; act >= 0; act--) {
            due(x.undo(), true);
            due(stateNow(x).equals(states[act]), true);
        }
        says(16, "REDO: true");
        for (int act = 1; act <= 7; act++) {
            due(x.redo(), true);
            due(stateNow(x).equals(states[act]), true);
        }
    }

    private static String stateNow(MirrorLies x) {
        return x.face(0) + " " + x.mirror(0, 2) + " " + x.mirror(0, 3) + " " + x.about(3) + " " + x.about(4) + " "
            + x.shows(0, 0) + " " + x.hall(0, 0, NONE, NONE, NONE) + " " + x.trues();
    }

    private void face() {
        says(6, "NONE if there is none such");
        MirrorLies x = open("boy a;boy b has 1;boy c has 2;boy d has 5;");
        due(x.face(0), 0);
        due(x.face(3), 32);
        due(x.face(4), NONE);
        due(x.face(-1), NONE);
        due(x.face(LEAST), NONE);
        due(x.face(MOST), NONE);
        due(open(LIE + "0;").face(0), NONE);
        due(open("boy a;").face(1), NONE);
    }

    private void mirror() {
        says(7, "NONE if there is none such, or for another what");
        MirrorLies x = open(mirrors(8, "0") + "mirror z lie 0 sees 1 to 2 price 7 dust 3;");
        due(x.mirror(8, 0), 6);
        due(x.mirror(8, 1), 7);
        due(x.mirror(8, 2), 3);
        due(x.mirror(8, 3), 0);
        for (int what = 0; what <= 3; what++) {
            due(x.mirror(9, what), NONE);
            due(x.mirror(-1, what), NONE);
            due(x.mirror(LEAST, what), NONE);
            due(x.mirror(MOST, what), NONE);
            due(new MirrorLies().mirror(0, what), NONE);
            due(open(LIE + "0;").mirror(1, what), NONE);
        }
        due(x.mirror(8, 4), NONE);
        due(x.mirror(8, -1), NONE);
        due(x.mirror(8, LEAST), NONE);
        due(x.mirror(8, MOST), NONE);
    }

    private void lieAndShows() {
        says(8, "NONE if about none, or one can't be");
        for (int width = 1; width <= 8; width++) {
            MirrorLies x = open("marks " + width + ";" + mirrors(2, "0"));
            due(x.lie(0, 0), 0);
            due(x.lie(1, (1 << width) - 1), 0);
            due(x.lie(0, 1 << width), NONE);
            due(x.lie(0, -1), NONE);
            due(x.lie(2, 0), NONE);
            due(x.lie(-1, 0), NONE);
        }
        MirrorLies x = open(LIE + "6;");
        due(x.lie(0, 0), NONE);
        due(x.lie(LEAST, LEAST), NONE);
        due(x.lie(MOST, MOST), NONE);
        due(x.lie(0, LEAST), NONE);
        due(x.lie(0, MOST), NONE);
        says(9, "NONE if one can't be");
        for (int width = 1; width <= 8; width++) {
            MirrorLies y = open("marks " + width + ";" + mirrors(2, "0"));
            due(y.shows(0, 0), 1);
            due(y.shows(1, (1 << width) - 1), (1 << width) - 2);
            due(y.shows(0, 1 << width), NONE);
            due(y.shows(0, -1), NONE);
            due(y.shows(2, 0), NONE);
            due(y.shows(-1, 0), NONE);
        }
        due(x.shows(LEAST, 0), NONE);
        due(x.shows(MOST, 0), NONE);
        due(x.shows(0, LEAST), NONE);
        due(x.shows(0, MOST), NONE);
    }

    private void mark() {
        says(10, "NONE, doing nothing, if one can't be");
        MirrorLies x = open(FOUR);
        x.mark(2, 2);
        x.undo();
        String before = state(x);
        due(x.mark(3, 0), NONE);
        due(x.mark(-1, 0), NONE);
        due(x.mark(LEAST, 0), NONE);
        due(x.mark(MOST, 0), NONE);
        due(x.mark(0, 3), NONE);
        due(x.mark(0, -1), NONE);
        due(x.mark(0, LEAST), NONE);
        due(x.mark(0, MOST), NONE);
        due(x.mark(0, 32), NONE);
        stays(x, before);
        due(x.mark(2, 2), 4);
        due(x.mark(0, 0), 0);
        due(new MirrorLies().mark(0, 0), NONE);
    }

    private void breatheAndWipe() {
        MirrorLies x = open(FOUR);
        x.breathe(3);
        x.undo();
        String before = state(x);
        says(11, "NONE, doing nothing, if there is none such");
        due(x.breathe(4), NONE);
        due(x.breathe(-1), NONE);
        due(x.breathe(LEAST), NONE);
        due(x.breathe(MOST), NONE);
        due(new MirrorLies().breathe(0), NONE);
        stays(x, before);
        says(12, "NONE, doing nothing, if there is none such");
        due(x.wipe(4), NONE);
        due(x.wipe(-1), NONE);
        due(x.wipe(LEAST), NONE);
        due(x.wipe(MOST), NONE);
        due(new MirrorLies().wipe(0), NONE);
        stays(x, before);
        says(11, "(An ACT.)");
        due(x.breathe(3), 7);
        due(x.about(5), 1);
        due(x.breathe(3), 9);
        due(x.breathe(3), 9);
        due(x.about(5), 3);
        says(12, "how much dust it had");
        due(x.wipe(3), 9);
        due(x.wipe(3), 0);
        due(x.about(5), 5);
        due(x.undo(), true);
        due(x.mirror(3, 2), 0);
        due(x.undo(), true);
        due(x.mirror(3, 2), 9);
    }

    private void crack() {
        says(13, "It CRACKS (by 1 .. 7): its CRACK then; NONE, doing nothing, if one can't be");
        MirrorLies x = open("marks 8;" + mirrors(2, "0"));
        due(x.crack(0, 1), 1);
        due(x.crack(1, 7), 7);
        x.crack(1, 2);
        x.undo();
        int[] wrong = {0, 8, -1, LEAST, MOST};
        for (int by : wrong) {
            due(x.crack(0, by), NONE);
        }
        due(x.crack(2, 1), NONE);
        due(x.crack(-1, 1), NONE);
        due(x.crack(LEAST, 1), NONE);
        due(x.crack(MOST, 1), NONE);
        due(x.mirror(0, 3), 1);
        due(x.mirror(1, 3), 7);
        due(x.about(5), 2);
        due(x.about(6), 1);
        due(x.crack(1, 2), 1);
        due(new MirrorLies().crack(0, 1), NONE);
    }

    private void night() {
        says(14, "NONE, doing nothing, if it would be above 9,999");
        MirrorLies x = open(LIE + "0;");
        for (int day = 1; day < 9999; day++) {
            x.night();
        }
        due(x.about(3), 9998);
        due(x.night(), 9999);
        due(x.undo(), true);
        due(x.redo(), true);
        String before = state(x);
        due(x.night(), NONE);
        stays(x, before);
        due(x.undo(), true);
        due(x.night(), 9999);
        says(14, "A NIGHT: the day;");
        due(new MirrorLies().night(), 1);
    }

    private void undoAndRedo() {
        says(15, "false if there is none");
        MirrorLies x = open(FOUR);
        String before = state(x);
        due(x.undo(), false);
        stays(x, before);
        x.night();
        due(x.undo(), true);
        due(x.undo(), false);
        due(x.about(6), 1);
        says(16, "false if there is none");
        MirrorLies y = open(FOUR);
        y.night();
        before = state(y);
        due(y.redo(), false);
        stays(y, before);
        y.undo();
        due(y.redo(), true);
        due(y.redo(), false);
        due(y.about(5), 1);
        due(y.about(3), 1);
    }

    private void boxes() {
        says(55, "FACES, dust, CRACKS, the day, the SEED are kept in a BOX 0 .. 2: the day");
        MirrorLies x = open(FOUR);
        for (int box = 0; box <= 2; box++) {
            due(x.image(box), box);
            x.night();
            x.mark(0, box);
        }
        due(x.back(1), 1);
        due(x.face(0), 0);
        due(x.back(2), 2);
        due(x.face(0), 2);
        due(x.back(0), 0);
        due(x.face(0), 1);
        x.night();
        due(x.image(0), 1);
        x.night();
        due(x.back(0), 1);
        due(x.image(2), 1);
        due(x.about(5), 0);
        says(55, "NONE if there is none such");
        String before = state(x);
        due(x.image(3), NONE);
        due(x.image(-1), NONE);
        due(x.image(LEAST), NONE);
        due(x.image(MOST), NONE);
        stays(x, before);
        due(new MirrorLies().image(2), 0);
        due(new MirrorLies().image(3), NONE);
    }

    private void back() {
        says(56, "All is as it was kept (no ACTS are kept then): the day");
        MirrorLies x = open(FOUR);
        x.night();
        x.image(1);
        x.night();
        x.mark(1, 1);
        x.breathe(0);
        x.wipe(3);
        x.crack(2, 2);
        x.undo();
        x.later(3);
        x.look(0, 0);
        x.hang(0);
        Checks.feed(x, "boy");
        due(x.back(1), 1);
        int[] all = {4, 3, 3, 1, 441, 0, 0, 1, 3, 3, 5, 1};
        for (int what = 0; what < all.length; what++) {
            due(x.about(what), all[what]);
        }
        due(x.face(1), 7);
        int[] dust = {0, 1, 0, 4};
        for (int mirror = 0; mirror < 4; mirror++) {
            due(x.mirror(mirror, 2), dust[mirror]);
            due(x.mirror(mirror, 3), 0);
        }
        due(x.undo(), false);
        due(x.redo(), false);
        due(x.shows(3, 7), 7);
        due(x.changed(1), 0);
        x.night();
        x.crack(0, 1);
        due(x.back(1), 1);
        due(x.mirror(0, 3), 0);
        says(56, "NONE, doing nothing, if nothing was");
        x.night();
        x.night();
        x.undo();
        String before = state(x);
        due(x.back(0), NONE);
        due(x.back(2), NONE);
        due(x.back(3), NONE);
        due(x.back(-1), NONE);
        due(x.back(LEAST), NONE);
        due(x.back(MOST), NONE);
        stays(x, before);
        due(x.redo(), true);
    }
}
