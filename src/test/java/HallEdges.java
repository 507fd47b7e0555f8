/** ==== 3 and promises 17 to 41: HALLS and what goes round in them, rows of MIRRORS, MIRRORS compared. */
final class HallEdges extends Edges {
    // A MIRROR that differs from a true one of eight MARKS in the last FACE alone, in the first FACE alone.
    private static final String BUT_THE_LAST = "9 - 9 * (many = 8)";
    private static final String BUT_THE_FIRST = "9 - 9 * (many = 0)";
    // From 1 no row of fewer than three comes back, but b a c, b c a and c b a do.
    private static final String BACK_BY_THREE = "marks 3;boy a has 0;mirror a lie 0;mirror b lie 2 sees 2 to 2;mirror c lie 2;";
    // From 1 a d c b alone comes back: 3, 4, 5, 1.
    private static final String BACK_BY_FOUR = "marks 3;boy a has 0;mirror a lie 1;mirror b lie 2;mirror c lie first % 2;"
        + "mirror d lie first + many sees 2 to 2;";

    // As many FACES as there are one behind another, each with one MARK more or less, and round again.
    private static final String ROUND_ALL = "(many % 2) * (first + 1 - first / 7)";

    HallEdges(Sentences sentences) {
        super(sentences);
    }

    @Override
    void all() {
        nothingIsDone();
        halls();
        hallsRefused();
        rounds();
        facings();
        sights();
        blind();
        moled();
        mendsFound();
        mendsByCracks();
        mendsRefused();
        hang();
        hangRefused();
        dream();
        hangs();
        trues();
        honest();
        alike();
        apart();
        fixed();
        lied();
        from();
        twins();
        crossed();
        undoes();
        longest();
        dull();
        changed();
        whose();
        lies();
    }

    private void nothingIsDone() {
        says(TERMS, "(By what is now; nothing is done.)");
        MirrorLies x = open(FOUR);
        x.image(0);
        x.night();
        x.crack(1, 1);
        x.undo();
        x.mend(0, 0);
        String before = state(x);
        x.hall(0, 0, 1, 2, 3);
        x.round(0, 1, 0);
        x.facing(0, 1, 2, 0);
        x.sights(0);
        x.blind(200);
        x.moled(0, 0);
        x.hangs(0, 4);
        x.trues();
        x.honest(0);
        x.apart(0, 1);
        x.fixed(0, 1);
        x.lied(0, 0);
        x.from(0, 0, 0);
        x.twins(0, 1);
        x.crossed(0, 1);
        x.undoes(0);
        x.longest(0, 0);
        x.dull();
        x.changed(0);
        x.whose(0, 0);
        x.mend(0, 0);
        stays(x, before);
        x.hang(0);
        x.dream(0, 6);
        x.alike();
        x.mend(0, 0);
        stays(x, before);
        due(x.redo(), true);
        due(x.mirror(1, 3), 1);
    }

    private void halls() {
        says(TERMS, "HALL of up to four MIRRORS");
        MirrorLies x = open(FOUR);
        due(x.hall(0, 3, NONE, NONE, NONE), 5);
        due(x.hall(0, 3, 0, NONE, NONE), 4);
        due(x.hall(0, 3, 0, 1, NONE), 6);
        due(x.hall(0, 3, 0, 1, 2), 0);
        due(x.hall(0, 3, 3, 3, 3), 1);
        says(17, "(of a, b, c, d; from the first NONE on none)");
        due(x.hall(0, NONE, 0, 0, 0), 1);
        due(x.hall(0, NONE, 9, LEAST, MOST), 1);
        due(x.hall(0, 3, NONE, 0, 0), 5);
        due(x.hall(0, 3, NONE, 4, -2), 5);
        due(x.hall(0, 3, 0, NONE, 1), 4);
        due(x.hall(0, 3, 0, NONE, 99), 4);
        says(17, "(no MIRROR: his FACE)");
        due(x.hall(0, NONE, NONE, NONE, NONE), 1);
        due(x.hall(1, NONE, NONE, NONE, NONE), 7);
        due(x.hall(2, NONE, NONE, NONE, NONE), 0);
        due(open("boy a has 4;").hall(0, NONE, 0, 0, 0), 16);
    }

    private void hallsRefused() {
        says(17, "NONE if one can't be");
        MirrorLies x = open(FOUR);
        int[] wrong = {4, -2, LEAST, MOST};
        for (int n : wrong) {
            due(x.hall(0, n, NONE, NONE, NONE), NONE);
            due(x.hall(0, 0, n, NONE, NONE), NONE);
            due(x.hall(0, 0, 0, n, NONE), NONE);
            due(x.hall(0, 0, 0, 0, n), NONE);
            due(x.hall(0, n, 0, 0, 0), NONE);
        }
        due(x.hall(3, NONE, NONE, NONE, NONE), NONE);
        due(x.hall(-1, NONE, NONE, NONE, NONE), NONE);
        due(x.hall(LEAST, 0, NONE, NONE, NONE), NONE);
        due(x.hall(MOST, 0, NONE, NONE, NONE), NONE);
        due(new MirrorLies().hall(0, NONE, NONE, NONE, NONE), NONE);
    }

    private void rounds() {
        says(TERMS, "the first number of them behind which it is as behind fewer (0 or more); how many fewer");
        MirrorLies x = open("marks 8;boy a has 0 1 2 3 4 5 6 7;mirror a lie first;mirror b lie 9;mirror c lie 0;"
            + "mirror d lie many % 2;mirror e lie 9 sees 0 to 6;mirror f lie 0 sees 0 to 6;");
        int[][] due = {{9, 1}, {1, 1}, {2, 2}, {4, 4}, {2, 1}, {3, 2}};
        for (int mirror = 0; mirror < due.length; mirror++) {
            due(x.round(0, mirror, 0), due[mirror][0]);
            due(x.round(0, mirror, 1), due[mirror][1]);
        }
        MirrorLies all = open("marks 8;boy a has 3;" + LIE + ROUND_ALL + ";mirror b lie 9;");
        due(all.round(0, 0, 0), 256);
        due(all.round(0, 0, 1), 256);
        due(all.facing(0, 0, 1, 0), 256);
        due(all.facing(0, 0, 1, 1), 256);
        due(all.facing(0, 0, 0, 0), 128);
        due(all.facing(0, 0, 0, 1), 128);
        due(all.longest(0, 0), 256);
        due(all.longest(0, 1), 0);
        // Without the way from the last to the first one it stops there.
        MirrorLies once = open("marks 8;boy a;" + LIE + "(many % 2) * (first + 1);");
        due(once.round(0, 0, 0), 256);
        due(once.round(0, 0, 1), 1);
        says(18, "NONE if one can't be");
        for (int what = 0; what <= 1; what++) {
            due(x.round(1, 0, what), NONE);
            due(x.round(-1, 0, what), NONE);
            due(x.round(LEAST, 0, what), NONE);
            due(x.round(MOST, 0, what), NONE);
            due(x.round(0, 6, what), NONE);
            due(x.round(0, -1, what), NONE);
            due(x.round(0, LEAST, what), NONE);
            due(x.round(0, MOST, what), NONE);
        }
        due(x.round(0, 0, 2), NONE);
        due(x.round(0, 0, -1), NONE);
        due(x.round(0, 0, LEAST), NONE);
        due(x.round(0, 0, MOST), NONE);
    }

    private void facings() {
        says(TERMS, "likewise by TURNS, each the IMAGE by the first and of that the one by the second");
        MirrorLies x = open("marks 3;boy a has 0 1 2;mirror a lie first;mirror b lie 9;mirror c lie 0;mirror d lie 1;");
        int[][] due = {{0, 1, 4, 1}, {1, 0, 4, 1}, {2, 3, 2, 2}, {1, 2, 2, 2}, {0, 2, 1, 1}, {2, 0, 2, 1}};
        for (int[] d : due) {
            due(x.facing(0, d[0], d[1], 0), d[2]);
            due(x.facing(0, d[0], d[1], 1), d[3]);
        }
        says(19, "(the same one twice can)");
        due(x.facing(0, 2, 2, 0), 1);
        due(x.facing(0, 2, 2, 1), 1);
        due(x.facing(0, 0, 0, 0), 3);
        due(x.facing(0, 0, 0, 1), 1);
        says(19, "NONE if one can't be");
        int[] wrong = {4, -1, LEAST, MOST};
        for (int n : wrong) {
            due(x.facing(0, n, 0, 0), NONE);
            due(x.facing(0, 0, n, 1), NONE);
            due(x.facing(n, 0, 0, 0), NONE);
            due(x.facing(0, 0, 1, n), NONE);
        }
        due(x.facing(1, 0, 0, 0), NONE);
        due(x.facing(0, 0, 1, 2), NONE);
    }

    private void sights() {
        says(TERMS, "how many FACES there are in HALLS of up to 4 unlike MIRRORS (his own, too)");
        due(open(BOY).sights(0), 1);
        due(open(BOY + LIE + "9;").sights(0), 1);
        due(open(BOY + LIE + "0;").sights(0), 2);
        due(open(BOY + LIE + "many;").sights(0), 2);
        due(open(BOY + flips(2)).sights(0), 4);
        due(open(BOY + flips(3)).sights(0), 8);
        due(open(BOY + flips(4)).sights(0), 16);
        due(open(BOY + flips(5)).sights(0), 31);
        due(open(BOY + flips(6)).sights(0), 57);
        due(open("marks 8;" + BOY + flips(8) + "mirror z lie 9;").sights(0), 163);
        MirrorLies x = open(BOY + LIE + "0;");
        due(x.sights(0), 2);
        x.mark(0, 3);
        due(x.sights(0), 2);
        x.breathe(0);
        x.breathe(0);
        due(x.sights(0), 1);
        says(20, "NONE if there is no such BOY");
        due(x.sights(1), NONE);
        due(x.sights(-1), NONE);
        due(x.sights(LEAST), NONE);
        due(x.sights(MOST), NONE);
        due(new MirrorLies().sights(0), NONE);
    }

    private void blind() {
        says(TERMS, "BLIND behind n NIGHTS: MIRRORS with 5 dust and more");
        MirrorLies x = open("mirror a lie 0 dust 4;mirror b lie 0 dust 5;mirror c lie 0 dust 9;mirror d lie 0;draw 344;");
        due(x.blind(0), 6);
        // 344 goes on to 199: 1 dust on the last of four; 117 to 100: 1 dust on the first of one.
        due(x.blind(1), 6);
        MirrorLies one = open(LIE + "0 dust 4;draw 117;");
        due(one.blind(0), 0);
        due(one.blind(1), 1);
        due(one.mirror(0, 2), 4);
        due(open(LIE + "0 dust 3;draw 117;").blind(1), 0);
        due(open(mirrors(9, "0 dust 5")).blind(0), 511);
        says(21, "BLIND (n 0 .. 200), as bits; NONE for another number");
        due(one.blind(200), 1);
        due(one.blind(201), NONE);
        due(one.blind(-1), NONE);
        due(one.blind(LEAST), NONE);
        due(one.blind(MOST), NONE);
        due(new MirrorLies().blind(0), 0);
        due(new MirrorLies().blind(200), 0);
        due(new MirrorLies().blind(201), NONE);
        MirrorLies late = open("mirror a lie 0;mirror b lie 0;mirror c lie 0;mirror d lie 0;mirror e lie 0;mirror f lie 0;"
            + "mirror g lie 0;draw 434;");
        due(late.blind(199) == 127, false);
        due(late.blind(200), 127);
    }

    private void moled() {
        says(TERMS, "MOLED of a BOY: the MARK about which most MIRRORS lie on his FACE; of like ones the first");
        MirrorLies x = open("marks 8;boy a;mirror a lie 7;mirror b lie 2;mirror c lie 7;mirror d lie 2;mirror e lie 5;");
        due(x.moled(0, 0), 2);
        due(x.moled(0, 1), 2);
        x.crack(4, 2);
        due(x.moled(0, 0), 7);
        due(x.moled(0, 1), 3);
        due(open(BOY + mirrors(9, "5")).moled(0, 1), 9);
        due(open(BOY + LIE + "0 sees 1 to 2;").moled(0, 0), 0);
        due(open(BOY + LIE + "3;mirror b lie 9;mirror c lie 9;").moled(0, 0), 3);
        due(open(BOY + LIE + "3;mirror b lie 9;mirror c lie 9;").moled(0, 1), 1);
        says(22, "NONE if none lies, or one can't be");
        for (int what = 0; what <= 1; what++) {
            due(open(BOY).moled(0, what), NONE);
            due(open(BOY + LIE + "6;").moled(0, what), NONE);
            due(open(BOY + LIE + "0 dust 5;").moled(0, what), NONE);
            due(x.moled(1, what), NONE);
            due(x.moled(-1, what), NONE);
            due(x.moled(LEAST, what), NONE);
            due(x.moled(MOST, what), NONE);
        }
        due(x.moled(0, 2), NONE);
        due(x.moled(0, -1), NONE);
        due(x.moled(0, LEAST), NONE);
        due(x.moled(0, MOST), NONE);
    }

    private void mend(String text, int... acts) {
        MirrorLies x = open(text);
        due(x.mend(0, 0), acts.length);
        lie(x, acts);
    }

    private void mendsFound() {
        says(TERMS, "MEND of a MIRROR for a BOY: the fewest ACTS on it (2 at most) by which its IMAGE of his FACE is that FACE; of like"
            + " ones the first (ACT by ACT: BREATHE, WIPE, then CRACKS by 1 .. 7)");
        mend(BOY + LIE + "6;");
        mend(BOY + LIE + "0 dust 5;");
        mend(BOY + LIE + "0 sees 1 to 2;");
        mend(BOY + LIE + "0 dust 2;", 0);
        mend(BOY + LIE + "0 dust 4;", 0);
        mend(BOY + LIE + "0 dust 1;", 0, 0);
        mend(BOY + LIE + "0;", 0, 0);
        mend(BOY + LIE + "9 * (dusty = 0) dust 1;", 1);
        mend(BOY + LIE + "9 * (dusty = 0) dust 2;", 0);
        mend(BOY + LIE + "9 * (dusty = 0) sees 0 to 0 dust 1;", 1);
        mend(BOY + LIE + "0 sees 0 to 0 dust 2;", 0);
        mend(BOY + LIE + "9 * (dusty = 3) dust 1;", 0, 0);
        mend(BOY + LIE + "9 * (dusty = 3);", 0);
        mend("marks 1;" + BOY + LIE + "0;", 0, 0);
        says(23, "They lie there then: 0 BREATHE, 1 WIPE, 10 and by how much it CRACKS (behind NONE: nothing)");
        mend("boy a has 1;" + LIE + "1 sees 1 to 1;", 11);
        MirrorLies x = open("boy a has 0;boy b;" + LIE + "0 sees 1 to 5;mirror b lie 1;");
        due(x.mend(1, 0), 2);
        due(x.mend(0, 0), NONE);
        lie(x);
        due(x.mend(1, 1), 2);
        due(x.mend(2, 0), NONE);
        lie(x);
        due(x.mend(1, 1), 2);
        due(x.mend(0, 2), NONE);
        lie(x);
    }

    private void mendsByCracks() {
        says(TERMS, "then CRACKS by 1 .. 7");
        for (int by = 1; by <= 7; by++) {
            // All MARKS below by are seen: to lie about another one takes so long a CRACK.
            mend("marks 8;boy a;" + LIE + "0 sees 0 to " + (by - 1) + ";", 10 + by);
            mend("marks 8;boy a;" + LIE + by + " sees 1 to 7;", 18 - by);
        }
        MirrorLies x = open("marks 8;boy a;" + LIE + "0 sees 0 to 0;");
        due(x.mend(0, 0), 1);
        x.crack(0, 1);
        due(x.mend(0, 0), 0);
        x.crack(0, 7);
        due(x.mend(0, 0), 1);
        lie(x, 11);
    }

    private void mendsRefused() {
        says(23, "NONE if 2 are not enough, or one can't be");
        MirrorLies x = open("boy a has 0;boy b has 1;" + LIE + "9 sees 1 to 5;mirror b lie 0;");
        due(x.mend(0, 0), NONE);
        due(x.mend(0, 1), 0);
        due(x.mend(1, 0), 2);
        int[] wrong = {2, -1, LEAST, MOST};
        for (int n : wrong) {
            due(x.mend(n, 0), NONE);
            due(x.mend(1, n), NONE);
        }
        due(x.about(5), 0);
        due(new MirrorLies().mend(0, 0), NONE);
        due(open(BOY).mend(0, 0), NONE);
        due(open(LIE + "9;").mend(0, 0), NONE);
    }

    private void hang() {
        says(TERMS, "HANG of a BOY: the fewest MIRRORS (1 .. 4, unlike ones) in a row in whose HALL he sees his FACE; of like ones the"
            + " first (MIRROR by MIRROR)");
        MirrorLies one = open(BOY + "mirror a lie 0;mirror b lie 0;mirror c lie 6;mirror d lie 6;");
        due(one.hang(0), 1);
        lie(one, 2);
        MirrorLies two = open(BOY + "mirror a lie 1;mirror b lie 0;mirror c lie 2;mirror d lie 0;mirror e lie 1;");
        due(two.hang(0), 2);
        lie(two, 0, 4);
        MirrorLies three = open(BACK_BY_THREE);
        due(three.hang(0), 3);
        lie(three, 1, 0, 2);
        MirrorLies four = open(BACK_BY_FOUR);
        due(four.hang(0), 4);
        lie(four, 0, 3, 2, 1);
        // The same one twice would do.
        due(open(BOY + LIE + "0;").hang(0), NONE);
        due(open(BOY + flips(6)).hang(0), NONE);
        MirrorLies last = open(BOY + flips(6) + "mirror y lie 5;mirror z lie 5;");
        due(last.hang(0), 2);
        lie(last, 5, 6);
    }

    private void hangRefused() {
        says(24, "NONE if there is none, or no such BOY");
        MirrorLies x = open("boy a has 5;boy b;" + LIE + "9 sees 0 to 4;");
        due(x.hang(0), NONE);
        due(x.hang(1), 1);
        due(x.hang(2), NONE);
        due(x.hang(-1), NONE);
        due(x.hang(LEAST), NONE);
        due(x.hang(MOST), NONE);
        due(open(BOY).hang(0), NONE);
        due(new MirrorLies().hang(0), NONE);
        says(24, "They lie there then (behind NONE: nothing)");
        due(x.hang(1), 1);
        lie(x, 0);
        due(x.hang(0), NONE);
        lie(x);
        due(x.hang(1), 1);
        due(x.hang(2), NONE);
        lie(x);
    }

    private void dream() {
        says(TERMS, "DREAM of a FACE: the fewest MIRRORS (0 .. 4, unlike ones) in whose HALL he sees that FACE; of like ones the first");
        MirrorLies x = open("marks 5;boy a;" + flips(5) + "mirror y lie 9;mirror z lie 4;");
        due(x.dream(0, 0), 0);
        lie(x);
        due(x.dream(0, 16), 1);
        lie(x, 4);
        due(x.dream(0, 17), 2);
        lie(x, 0, 4);
        due(x.dream(0, 7), 3);
        lie(x, 0, 1, 2);
        due(x.dream(0, 30), 4);
        lie(x, 1, 2, 3, 4);
        due(x.dream(0, 31), NONE);
        due(open(BOY).dream(0, 0), 0);
        due(open("marks 2;boy a;" + LIE + "many;").dream(0, 3), NONE);
        says(25, "NONE if there is none, or one can't be");
        for (int width = 1; width <= 8; width++) {
            MirrorLies y = open("marks " + width + ";boy a;" + LIE + (width - 1) + ";");
            due(y.dream(0, 1 << width - 1), 1);
            due(y.dream(0, 1 << width), NONE);
            due(y.dream(0, -1), NONE);
        }
        int[] wrong = {1, -1, LEAST, MOST};
        for (int n : wrong) {
            due(x.dream(n, 0), NONE);
        }
        due(x.dream(0, LEAST), NONE);
        due(x.dream(0, MOST), NONE);
        says(25, "They lie there then (behind NONE: nothing)");
        due(x.dream(0, 30), 4);
        due(x.dream(0, 31), NONE);
        lie(x);
        due(x.dream(0, 30), 4);
        due(x.dream(0, 32), NONE);
        lie(x);
        due(x.dream(0, 30), 4);
        due(x.dream(1, 30), NONE);
        lie(x);
    }

    private void hangs() {
        says(TERMS, "HANGS of n: how many such rows of n there are");
        MirrorLies nine = open(BOY + mirrors(9, "6"));
        due(nine.hangs(0, 1), 9);
        due(nine.hangs(0, 2), 72);
        due(nine.hangs(0, 3), 504);
        due(nine.hangs(0, 4), 3024);
        MirrorLies x = open(BOY + mirrors(3, "0"));
        due(x.hangs(0, 1), 0);
        due(x.hangs(0, 2), 6);
        due(x.hangs(0, 3), 0);
        due(x.hangs(0, 4), 0);
        due(open(BACK_BY_THREE).hangs(0, 3), 3);
        due(open(BACK_BY_FOUR).hangs(0, 4), 1);
        due(open(BOY).hangs(0, 1), 0);
        says(26, "HANGS (n 1 .. 4); NONE if one can't be");
        due(x.hangs(0, 0), NONE);
        due(x.hangs(0, 5), NONE);
        due(x.hangs(0, -1), NONE);
        due(x.hangs(0, LEAST), NONE);
        due(x.hangs(0, MOST), NONE);
        due(x.hangs(1, 1), NONE);
        due(x.hangs(-1, 1), NONE);
        due(x.hangs(LEAST, 1), NONE);
        due(x.hangs(MOST, 1), NONE);
    }

    private void trues() {
        says(TERMS, "TRUE: MIRRORS whose IMAGE of each FACE is that FACE;");
        MirrorLies x = open("marks 8;mirror a lie " + BUT_THE_LAST + ";mirror b lie " + BUT_THE_FIRST
            + ";mirror c lie 8;mirror d lie 0 - 1;mirror e lie 0 dust 5;mirror f lie 0 dust 4;mirror g lie 8 sees 0 to 6;"
            + "mirror h lie 8 sees 1 to 7;mirror i lie 8;");
        due(x.trues(), 0b100011100);
        says(27, "TRUE, as bits");
        due(new MirrorLies().trues(), 0);
        due(open("marks 8;" + mirrors(9, "8")).trues(), 511);
        due(open("marks 8;" + mirrors(9, "7")).trues(), 0);
    }

    private void honest() {
        says(TERMS, "HONEST to a BOY: whose IMAGE is his FACE");
        MirrorLies x = open("marks 8;boy a;boy b has 0 1 2 3 4 5 6 7;mirror a lie " + BUT_THE_LAST + ";mirror b lie "
            + BUT_THE_FIRST + ";mirror c lie 8 sees 0 to 0;");
        due(x.honest(0), 5);
        due(x.honest(1), 2);
        due(open(BOY).honest(0), 0);
        due(open(BOY + mirrors(9, "6")).honest(0), 511);
        says(28, "NONE if there is no such BOY");
        due(x.honest(2), NONE);
        due(x.honest(-1), NONE);
        due(x.honest(LEAST), NONE);
        due(x.honest(MOST), NONE);
        due(new MirrorLies().honest(0), NONE);
    }

    private void alike() {
        says(TERMS, "ALIKE: twos of MIRRORS whose IMAGES of all FACES are alike; the first");
        due(open("marks 8;mirror a lie 8;mirror b lie " + BUT_THE_LAST + ";mirror c lie " + BUT_THE_FIRST + ";").alike(), 0);
        due(open("mirror a lie 6;mirror b lie 6 sees 0 to 4;").alike(), 0);
        due(open("mirror a lie 6;mirror b lie 7;").alike(), 1);
        due(open("mirror a lie 5 sees 0 to 4;mirror b lie 9 sees 0 to 4 price 7;").alike(), 1);
        due(open("mirror a lie 6;mirror b lie 0 dust 5;").alike(), 1);
        MirrorLies nine = open(mirrors(9, "3"));
        due(nine.alike(), 36);
        lie(nine, 0, 1);
        MirrorLies last = open(flips(6) + "mirror x lie 0 - 1;mirror y lie 5;mirror z lie 6;");
        due(last.alike(), 2);
        lie(last, 5, 7);
        last.breathe(5);
        last.breathe(5);
        due(last.alike(), 3);
        lie(last, 5, 6);
        says(29, "(the less first; by the less, then by the greater one; behind 0: nothing)");
        MirrorLies x = open("mirror a lie 0;mirror b lie 1;mirror c lie 2;mirror d lie 2;mirror e lie 1;mirror f lie 0;");
        due(x.alike(), 3);
        lie(x, 0, 5);
        MirrorLies y = open("mirror a lie 4;mirror b lie 1;mirror c lie 2;mirror d lie 2;mirror e lie 1;");
        due(y.alike(), 2);
        lie(y, 1, 4);
        y.crack(1, 2);
        due(y.alike(), 1);
        lie(y, 2, 3);
        y.crack(2, 4);
        due(y.alike(), 0);
        lie(y);
        due(new MirrorLies().alike(), 0);
        MirrorLies one = open(BOY + LIE + "6;");
        one.hang(0);
        due(one.alike(), 0);
        lie(one);
    }

    private void apart() {
        says(TERMS, "APART of two: the least FACE of which their IMAGES are unlike");
        MirrorLies x = open("marks 8;mirror a lie 8;mirror b lie " + BUT_THE_LAST + ";mirror c lie " + BUT_THE_FIRST
            + ";mirror d lie 8 sees 0 to 6;mirror e lie 9;");
        due(x.apart(0, 1), 255);
        due(x.apart(1, 0), 255);
        due(x.apart(0, 2), 0);
        due(x.apart(0, 3), 128);
        due(x.apart(1, 2), 0);
        says(30, "NONE if there is none, or one can't be");
        due(x.apart(0, 4), NONE);
        due(x.apart(1, 1), NONE);
        int[] wrong = {5, -1, LEAST, MOST};
        for (int n : wrong) {
            due(x.apart(n, 2), NONE);
            due(x.apart(2, n), NONE);
        }
    }

    private void fixed() {
        says(TERMS, "FIXED of a MIRROR: FACES of which its IMAGE is that FACE: how many; the one with most MARKS (of like ones the least)");
        MirrorLies x = open("marks 8;mirror a lie 8;mirror b lie " + BUT_THE_LAST + ";mirror c lie 9 * (many = 0);"
            + "mirror d lie 9 * (many = 1);mirror e lie 8 sees 1 to 7;mirror f lie 9 * (first = 7);");
        int[][] due = {{256, 255}, {255, 127}, {1, 0}, {8, 1}, {128, 254}, {1, 128}};
        for (int mirror = 0; mirror < due.length; mirror++) {
            due(x.fixed(mirror, 0), due[mirror][0]);
            due(x.fixed(mirror, 1), due[mirror][1]);
        }
        says(31, "1: that FACE (NONE); NONE if one can't be");
        MirrorLies none = open(LIE + "0;");
        due(none.fixed(0, 0), 0);
        due(none.fixed(0, 1), NONE);
        int[] wrong = {6, -1, LEAST, MOST};
        for (int n : wrong) {
            due(x.fixed(n, 0), NONE);
            due(x.fixed(n, 1), NONE);
            due(x.fixed(0, n), NONE);
        }
        due(x.fixed(0, 2), NONE);
    }

    private void lied() {
        says(32, "On how many FACES a MIRROR lies about a MARK");
        MirrorLies x = open("marks 8;mirror a lie first;mirror b lie 7;mirror c lie 0 sees 1 to 1;mirror d lie 0 dust 5;");
        due(x.lied(0, 0), 128);
        due(x.lied(0, 7), 1);
        due(x.lied(1, 7), 256);
        due(x.lied(1, 6), 0);
        due(x.lied(2, 0), 256);
        due(x.lied(3, 0), 0);
        x.crack(0, 1);
        due(x.lied(0, 0), 1);
        due(x.lied(0, 1), 128);
        says(32, "NONE if one can't be");
        due(x.lied(1, 8), NONE);
        due(x.lied(1, -1), NONE);
        due(x.lied(3, -1), NONE);
        due(x.lied(1, LEAST), NONE);
        due(x.lied(1, MOST), NONE);
        int[] wrong = {4, -1, LEAST, MOST};
        for (int n : wrong) {
            due(x.lied(n, 0), NONE);
        }
        due(open("marks 1;" + LIE + "0;").lied(0, 0), 2);
        due(open("marks 1;" + LIE + "0;").lied(0, 1), NONE);
    }

    private void from() {
        says(33, "FACES of which a MIRROR's IMAGE is just a set of MARKS what 0: how many, 1: the least (NONE)");
        MirrorLies x = open("marks 8;mirror a lie 9 - 9 * (first = 0) sees 0 to 0;mirror b lie 9;mirror c lie 0;"
            + "mirror d lie 9 sees 7 to 7;");
        int[][] due = {{0, 0, 256, 0}, {0, 1, 0, NONE}, {1, 255, 1, 255}, {2, 0, 1, 1}, {2, 255, 1, 254}, {3, 128, 128, 128},
            {3, 127, 0, NONE}};
        for (int[] d : due) {
            due(x.from(d[0], d[1], 0), d[2]);
            due(x.from(d[0], d[1], 1), d[3]);
        }
        says(33, "NONE if one can't be");
        int[] wrong = {-1, 256, LEAST, MOST};
        for (int n : wrong) {
            due(x.from(1, n, 0), NONE);
            due(x.from(1, n, 1), NONE);
            due(x.from(n, 0, 0), NONE);
            due(x.from(1, 0, n), NONE);
        }
        due(x.from(4, 0, 0), NONE);
        due(x.from(1, 0, 2), NONE);
        due(open("marks 1;" + LIE + "0;").from(0, 2, 0), NONE);
    }

    private void twins() {
        says(34, "MIRRORS in which two unlike BOYS look alike, as bits");
        MirrorLies x = open("boy a;boy b has 0;boy c;boy d has 5;mirror a lie 9;mirror b lie 9 sees 1 to 5;"
            + "mirror c lie 9 sees 0 to 4;mirror d lie 9 - 9 * (first = 0);");
        due(x.twins(0, 1), 10);
        due(x.twins(1, 0), 10);
        due(x.twins(0, 2), 15);
        due(x.twins(0, 3), 4);
        due(x.twins(1, 3), 0);
        due(open("boy a;boy b;").twins(0, 1), 0);
        due(open("boy a;boy b;" + mirrors(9, "0")).twins(1, 0), 511);
        says(34, "NONE if one can't be (the same one twice, too)");
        for (int boy = 0; boy < 4; boy++) {
            due(x.twins(boy, boy), NONE);
        }
        int[] wrong = {4, -1, LEAST, MOST};
        for (int n : wrong) {
            due(x.twins(n, 0), NONE);
            due(x.twins(0, n), NONE);
            due(x.twins(n, n), NONE);
        }
    }

    private void crossed() {
        says(35, "On how many FACES what one MIRROR shows of the IMAGE by another one is not as the other way about");
        MirrorLies x = open("marks 8;mirror a lie 0;mirror b lie 7;mirror c lie 9 sees 0 to 6;mirror d lie " + BUT_THE_LAST
            + ";mirror e lie first;mirror f lie 9;");
        due(x.crossed(0, 1), 0);
        // d lies on 255 alone: so of 255 and of 127 the order counts with b.
        due(x.crossed(1, 3), 2);
        due(x.crossed(3, 1), 2);
        due(x.crossed(1, 2), 256);
        due(x.crossed(0, 5), 0);
        due(open(FOUR).crossed(0, 1), 8);
        says(35, "(the same one twice: 0); NONE if one can't be");
        for (int mirror = 0; mirror < 6; mirror++) {
            due(x.crossed(mirror, mirror), 0);
        }
        int[] wrong = {6, -1, LEAST, MOST};
        for (int n : wrong) {
            due(x.crossed(n, 0), NONE);
            due(x.crossed(0, n), NONE);
            due(x.crossed(n, n), NONE);
        }
    }

    private void undoes() {
        says(36, "MIRRORS that show of each IMAGE by one the FACE that it is of, as bits (it, too)");
        MirrorLies x = open("marks 2;mirror a lie 0;mirror b lie many % 2;mirror c lie 1 - many % 2;mirror d lie 9;"
            + "mirror e lie 9 sees 0 to 0;mirror f lie 0;mirror g lie 9 - 9 * (many = 2);mirror h lie " + BUT_THE_FIRST + ";");
        due(x.undoes(0), 33);
        due(x.undoes(1), 4);
        due(x.undoes(2), 2);
        due(x.undoes(3), 8);
        due(x.undoes(4), 0);
        due(x.undoes(5), 33);
        due(x.undoes(6), 0);
        due(x.undoes(7), 0);
        due(open(mirrors(9, "6")).undoes(8), 511);
        due(open(mirrors(9, "0")).undoes(0), 511);
        says(36, "NONE if there is none such");
        due(x.undoes(8), NONE);
        due(x.undoes(-1), NONE);
        due(x.undoes(LEAST), NONE);
        due(x.undoes(MOST), NONE);
        due(new MirrorLies().undoes(0), NONE);
    }

    private void longest() {
        says(37, "over all FACES (ROUND's how many fewer) what 0: how long, 1: the least FACE with it");
        MirrorLies x = open("marks 2;mirror a lie 9;mirror b lie 0;mirror c lie many % 2;mirror d lie 9 * (many = 0);"
            + "mirror e lie 9 sees 0 to 0;mirror f lie first;");
        int[][] due = {{1, 0}, {2, 0}, {4, 0}, {2, 2}, {1, 0}, {1, 0}};
        for (int mirror = 0; mirror < due.length; mirror++) {
            due(x.longest(mirror, 0), due[mirror][0]);
            due(x.longest(mirror, 1), due[mirror][1]);
        }
        // Only 254 and 255 go round by two.
        MirrorLies last = open("marks 8;" + LIE + "9 - 9 * (many > 6 and (many = 8 or first = 1));");
        due(last.longest(0, 0), 2);
        due(last.longest(0, 1), 254);
        // Only 0 and 1 do.
        MirrorLies first = open("marks 8;" + LIE + "9 - 9 * (many = 0 or many = 1 and first = 0);");
        due(first.longest(0, 0), 2);
        due(first.longest(0, 1), 0);
        says(37, "NONE if one can't be");
        int[] wrong = {6, -1, LEAST, MOST};
        for (int n : wrong) {
            due(x.longest(n, 0), NONE);
            due(x.longest(n, 1), NONE);
            due(x.longest(0, n), NONE);
        }
        due(x.longest(0, 2), NONE);
    }

    private void dull() {
        says(38, "Behind how many NIGHTS (0: now; 200 at most) all MIRRORS are BLIND; NONE if they are not; 0 without MIRRORS");
        due(new MirrorLies().dull(), 0);
        due(open(BOY).dull(), 0);
        due(open(mirrors(9, "0 dust 5")).dull(), 0);
        due(open(LIE + "0 dust 4;draw 117;").dull(), 1);
        due(open("mirror a lie 0 dust 9;mirror b lie 0 dust 4;draw 644;").dull(), 1);
        MirrorLies late = open(mirrors(7, "0") + "draw 434;");
        due(late.dull(), 200);
        late.night();
        due(late.dull(), 199);
        // A SEED whose rest by 5 is 4 is followed by such ones alone: the other four never get dust.
        MirrorLies never = open(mirrors(5, "0") + "draw 4;");
        due(never.dull(), NONE);
        due(never.about(3), 0);
        due(never.blind(200), 16);
    }

    private void changed() {
        says(TERMS, "CHANGED since a BOX: MIRRORS whose IMAGE of some FACE was another one by the day, dust, CRACKS kept there");
        MirrorLies x = open("marks 8;boy a;mirror a lie " + BUT_THE_LAST + ";mirror b lie day;mirror c lie dusty;mirror d lie 8;"
            + "mirror e lie 7;draw 817;");
        due(x.image(0), 0);
        due(x.changed(0), 0);
        x.mark(0, 0);
        due(x.changed(0), 0);
        x.crack(0, 1);
        due(x.changed(0), 1);
        x.night();
        due(x.changed(0), 3);
        x.breathe(2);
        due(x.changed(0), 7);
        x.crack(3, 1);
        x.breathe(4);
        due(x.changed(0), 7);
        x.breathe(4);
        due(x.changed(0), 23);
        due(x.image(1), 1);
        due(x.changed(1), 0);
        x.back(0);
        due(x.changed(0), 0);
        due(x.changed(1), 23);
        x.crack(0, 7);
        x.crack(0, 1);
        due(x.changed(0), 0);
        MirrorLies nine = open(mirrors(9, "day"));
        nine.image(2);
        nine.night();
        due(nine.changed(2), 511);
        MirrorLies first = open("marks 8;" + LIE + BUT_THE_FIRST + ";");
        first.image(0);
        first.crack(0, 3);
        due(first.changed(0), 1);
        says(39, "NONE if nothing is kept there");
        due(x.changed(2), NONE);
        due(x.changed(3), NONE);
        due(x.changed(-1), NONE);
        due(x.changed(LEAST), NONE);
        due(x.changed(MOST), NONE);
        due(new MirrorLies().changed(0), NONE);
        MirrorLies empty = new MirrorLies();
        due(empty.image(2), 0);
        due(empty.changed(2), 0);
    }

    private void whose() {
        says(TERMS, "WHOSE: BOYS whose IMAGE in a MIRROR is just a set of MARKS");
        MirrorLies x = open("marks 8;boy a;boy b has 7;boy c has 0 7;boy d has 0;mirror a lie 8;mirror b lie 8 sees 0 to 6;"
            + "mirror c lie 0;mirror d lie 9 - 9 * (first = 0) sees 0 to 0;");
        int[][] due = {{0, 0, 1}, {0, 128, 2}, {0, 129, 4}, {0, 255, 0}, {1, 0, 3}, {1, 1, 12}, {1, 128, 0}, {2, 0, 8}, {3, 0, 15},
            {3, 255, 0}};
        for (int[] d : due) {
            due(x.whose(d[0], d[1]), d[2]);
        }
        due(open(LIE + "0;").whose(0, 0), 0);
        says(40, "WHOSE, as bits; NONE if one can't be");
        due(x.whose(0, 256), NONE);
        due(x.whose(0, -1), NONE);
        due(x.whose(0, LEAST), NONE);
        due(x.whose(0, MOST), NONE);
        int[] wrong = {4, -1, LEAST, MOST};
        for (int n : wrong) {
            due(x.whose(n, 0), NONE);
        }
    }

    private void lies() {
        says(41, "The i-th number of what lies there; NONE if there is none such");
        MirrorLies x = open(BACK_BY_FOUR);
        due(x.lies(0), NONE);
        due(x.hang(0), 4);
        lie(x, 0, 3, 2, 1);
        due(x.lies(4), NONE);
        due(x.lies(-1), NONE);
        due(x.lies(LEAST), NONE);
        due(x.lies(MOST), NONE);
        // What is done meanwhile takes nothing away, the next that lays something there does.
        x.night();
        x.undo();
        x.mark(0, 0);
        x.look(0, 0);
        x.hangs(0, 2);
        x.image(0);
        x.back(0);
        lie(x, 0, 3, 2, 1);
        x.mark(0, 0);
        due(x.mend(0, 0), 2);
        lie(x, 0, 0);
        due(x.dream(0, 3), 1);
        lie(x, 0);
        due(x.alike(), 0);
        lie(x);
    }
}
