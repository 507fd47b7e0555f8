/** ==== 4 and promises 42 to 54: LOOKS and their TIMES, what is LIKE, ASK, COURSE, TELL and GLASS at their edges. */
final class LookEdges extends Edges {
    // Of sixteen FACES mirror a shows MARK 0 of ten (of eleven), mirror b shows all as it is.
    private static final String TEN = "marks 4;mirror a lie 4 - 4 * (many = 1) sees 0 to 0;";
    private static final String ELEVEN = "marks 4;mirror a lie 4 * (many > 1) sees 0 to 0;";
    private static final String TRUE_ONE = "mirror b lie 9;";

    LookEdges(Sentences sentences) {
        super(sentences);
    }

    @Override
    void all() {
        thirty();
        lookRefused();
        untell();
        later();
        lateEdge();
        times();
        like();
        asNow();
        who();
        spread();
        sure();
        odds();
        ask();
        mean();
        courseOfTen();
        courses();
        tell();
        glass();
        tellRefused();
    }

    private void thirty() {
        says(TERMS, "LOOKS, 30 at most");
        MirrorLies x = open(FOUR);
        for (int i = 0; i < 30; i++) {
            due(x.about(7), i);
            due(x.look(0, 0), i);
        }
        says(42, "or there are 30");
        String before = state(x);
        due(x.look(0, 0), NONE);
        due(x.look(1, 0), NONE);
        stays(x, before);
        due(x.untell(29), true);
        due(x.look(0, 0), NONE);
        due(x.about(7), 30);
        due(x.untell(30), false);
        Checks.feed(x, FOUR);
        due(x.school(), 4);
        due(x.about(7), 0);
        due(x.look(0, 0), 0);
    }

    private void lookRefused() {
        says(42, "NONE, doing nothing, if one can't be (MARKS that it does not see, too)");
        MirrorLies x = open("marks 8;mirror a lie 9 sees 1 to 6;mirror b lie 9;mirror c lie 0 sees 7 to 7;");
        due(x.look(0, 128), NONE);
        due(x.look(0, 1), NONE);
        due(x.look(0, 127), NONE);
        due(x.look(0, 255), NONE);
        due(x.look(2, 127), NONE);
        due(x.look(2, 1), NONE);
        due(x.look(1, 256), NONE);
        due(x.look(1, -1), NONE);
        due(x.look(0, -2), NONE);
        due(x.look(1, LEAST), NONE);
        due(x.look(1, MOST), NONE);
        int[] wrong = {3, -1, LEAST, MOST};
        for (int n : wrong) {
            due(x.look(n, 0), NONE);
        }
        due(x.about(7), 0);
        due(x.like(0, 0), 256);
        says(42, "A LOOK: its number");
        due(x.look(0, 126), 0);
        due(x.look(1, 255), 1);
        due(x.look(2, 128), 2);
        due(x.look(2, 0), 3);
        due(x.about(7), 4);
        due(new MirrorLies().look(0, 0), NONE);
    }

    private void untell() {
        says(43, "false if it is so already, or there is none such");
        MirrorLies x = open(FOUR);
        due(x.untell(0), false);
        x.look(0, 0);
        x.look(2, 2);
        due(x.untell(2), false);
        due(x.untell(-1), false);
        due(x.untell(LEAST), false);
        due(x.untell(MOST), false);
        x.later(3);
        due(x.untell(1), true);
        x.later(3);
        due(x.untell(1), false);
        // It was UNTOLD at 3, and stays so.
        due(x.like(0, 2), 2);
        due(x.like(0, 3), 4);
        due(x.untell(0), true);
        due(x.untell(0), false);
        due(x.like(0, 5), 4);
        due(x.like(0, 6), 8);
    }

    private void later() {
        says(44, "So much later (0 .. 1000): the TIME; NONE, doing nothing, for another number");
        MirrorLies x = new MirrorLies();
        due(x.about(8), 0);
        due(x.later(0), 0);
        due(x.later(1), 1);
        due(x.later(1000), 1001);
        due(x.later(1001), NONE);
        due(x.later(-1), NONE);
        due(x.later(LEAST), NONE);
        due(x.later(MOST), NONE);
        due(x.about(8), 1001);
        due(x.later(0), 1001);
    }

    private void lateEdge() {
        says(44, "or if it would be above 100,000");
        MirrorLies x = open(FOUR);
        for (int i = 1; i <= 99; i++) {
            due(x.later(1000), i * 1000);
        }
        due(x.later(999), 99999);
        due(x.later(2), NONE);
        due(x.later(1000), NONE);
        due(x.about(8), 99999);
        due(x.look(0, 0), 0);
        due(x.later(1), 100000);
        due(x.later(1), NONE);
        due(x.later(0), 100000);
        due(x.about(8), 100000);
        due(x.untell(0), true);
        due(x.like(0, 99998), 8);
        due(x.like(0, 99999), 4);
        due(x.like(0, 100000), 8);
    }

    private void times() {
        says(TERMS, "are TOLD at a TIME (0 at first, goes on), UNTOLD at a later one or the same");
        MirrorLies x = open(FOUR);
        x.look(0, 0);
        x.untell(0);
        int[] times = {LEAST, -1, 0, 1, MOST};
        for (int k : times) {
            due(x.like(0, k), 8);
        }
        says(TERMS, "As known at k those count that were TOLD at k or before, not UNTOLD at k or before");
        // By the one 0, 1, 2, 4 are left, by the other one 0, 5.
        x.later(5);
        x.look(0, 0);
        x.look(1, 1);
        x.later(5);
        x.untell(1);
        x.later(5);
        x.untell(2);
        int[][] due = {{LEAST, 8}, {-1, 8}, {0, 8}, {4, 8}, {5, 1}, {6, 1}, {9, 1}, {10, 2}, {14, 2}, {15, 8}, {16, 8}, {MOST, 8}};
        for (int[] d : due) {
            due(x.like(0, d[0]), d[1]);
        }
    }

    private void like() {
        says(TERMS, "LIKE: FACES of which all MIRRORS, as they are now, show what LOOKS that count tell: how many; the least");
        for (int width = 1; width <= 8; width++) {
            MirrorLies x = open("marks " + width + ";" + LIE + "9;");
            due(x.like(0, 0), 1 << width);
            due(x.like(1, 0), 0);
            x.look(0, (1 << width) - 1);
            due(x.like(0, 0), 1);
            due(x.like(1, 0), (1 << width) - 1);
            x.look(0, 0);
            due(x.like(0, 0), 0);
            due(x.like(1, 0), NONE);
        }
        says(45, "LIKE what 0: how many, 1: the least (NONE); NONE for another what");
        MirrorLies x = open(LIE + "9;");
        due(x.like(2, 0), NONE);
        due(x.like(-1, 0), NONE);
        due(x.like(LEAST, 0), NONE);
        due(x.like(MOST, 0), NONE);
        due(new MirrorLies().like(0, 0), 64);
        due(new MirrorLies().like(1, LEAST), 0);
    }

    private void asNow() {
        says(TERMS, "as they are now, show what LOOKS that count tell");
        MirrorLies x = open("marks 3;" + LIE + "day;");
        x.look(0, 0);
        due(x.like(1, 0), 1);
        x.night();
        due(x.like(1, 0), 2);
        x.crack(0, 1);
        due(x.like(1, 0), 4);
        x.breathe(0);
        x.breathe(0);
        due(x.like(1, 0), 0);
        x.undo();
        due(x.like(1, 0), 4);
    }

    private void who() {
        says(46, "BOYS whose FACE is one of these, as bits");
        MirrorLies x = open("boy a;boy b has 0;boy c has 5;boy d;" + LIE + "9 sees 0 to 0;mirror b lie 9;");
        due(x.who(0), 15);
        due(x.who(LEAST), 15);
        x.look(0, 0);
        due(x.who(0), 13);
        due(x.who(-1), 15);
        x.look(1, 32);
        due(x.who(0), 4);
        x.mark(3, 5);
        due(x.who(0), 12);
        x.look(0, 1);
        due(x.who(0), 0);
        due(x.who(MOST), 0);
        due(new MirrorLies().who(0), 0);
    }

    private void spread() {
        says(47, "Of these FACES what 0: the fewest, 1: the most MARKS one has");
        MirrorLies x = open("marks 8;" + LIE + "9 sees 0 to 0;mirror b lie 9;");
        due(x.spread(0, 0), 0);
        due(x.spread(1, 0), 8);
        x.look(0, 1);
        due(x.spread(0, 0), 1);
        due(x.spread(1, 0), 8);
        x.look(1, 255);
        due(x.spread(0, 0), 8);
        due(x.spread(1, 0), 8);
        due(x.spread(0, -1), 0);
        MirrorLies bare = open("marks 8;" + LIE + "9;");
        bare.look(0, 0);
        due(bare.spread(0, 0), 0);
        due(bare.spread(1, 0), 0);
        says(47, "NONE if there are none, or for another what");
        due(x.spread(2, 0), NONE);
        due(x.spread(-1, 0), NONE);
        due(x.spread(LEAST, 0), NONE);
        due(x.spread(MOST, 0), NONE);
        x.look(0, 0);
        due(x.spread(0, 0), NONE);
        due(x.spread(1, 0), NONE);
    }

    private void sure() {
        says(48, "1 if it is there in all, 0 if in none; -2 if in some");
        MirrorLies x = open("marks 8;" + LIE + "9 sees 0 to 1;");
        due(x.sure(0, 0), -2);
        due(x.sure(7, 0), -2);
        x.look(0, 2);
        due(x.sure(0, 0), 0);
        due(x.sure(1, 0), 1);
        due(x.sure(2, 0), -2);
        due(x.sure(1, -1), -2);
        MirrorLies one = open("marks 1;" + LIE + "0;");
        due(one.sure(0, 0), -2);
        one.look(0, 0);
        due(one.sure(0, 0), 1);
        says(48, "NONE if there are none, or no such MARK");
        due(x.sure(8, 0), NONE);
        due(x.sure(-1, 0), NONE);
        due(x.sure(LEAST, 0), NONE);
        due(x.sure(MOST, 0), NONE);
        due(one.sure(1, 0), NONE);
        x.look(0, 0);
        due(x.sure(0, 0), NONE);
        due(x.sure(1, 0), NONE);
        due(new MirrorLies().sure(6, 0), NONE);
        due(new MirrorLies().sure(5, 0), -2);
    }

    private void odds() {
        says(49, "ODDS the upper part (0), the lower part (1), in lowest terms");
        MirrorLies x = open("marks 8;" + LIE + "9 sees 0 to 1;mirror b lie 9 * (many = 1) sees 2 to 2;");
        due(x.odds(7, 0, 0), 1);
        due(x.odds(7, 1, 0), 2);
        x.look(0, 2);
        due(x.odds(0, 0, 0), 0);
        due(x.odds(0, 1, 0), 1);
        due(x.odds(1, 0, 0), 1);
        due(x.odds(1, 1, 0), 1);
        MirrorLies ten = open(TEN);
        ten.look(0, 1);
        due(ten.odds(0, 0, 0), 7);
        due(ten.odds(0, 1, 0), 10);
        due(ten.odds(3, 0, 0), 1);
        due(ten.odds(3, 1, 0), 2);
        MirrorLies eleven = open(ELEVEN);
        eleven.look(0, 1);
        due(eleven.odds(0, 0, 0), 7);
        due(eleven.odds(0, 1, 0), 11);
        MirrorLies one = open("marks 8;" + LIE + "9;");
        one.look(0, 2);
        due(one.odds(1, 0, 0), 1);
        due(one.odds(1, 1, 0), 1);
        due(one.odds(7, 0, 0), 0);
        due(one.odds(7, 1, 0), 1);
        says(49, "NONE if there are none, or one can't be");
        int[] wrong = {8, -1, LEAST, MOST};
        for (int n : wrong) {
            due(x.odds(n, 0, 0), NONE);
            due(x.odds(0, n, 0), NONE);
        }
        due(x.odds(0, 2, 0), NONE);
        x.look(0, 0);
        due(x.odds(0, 0, 0), NONE);
        due(x.odds(0, 1, 0), NONE);
        due(x.odds(0, 1, -1), 2);
    }

    private void ask() {
        says(TERMS, "ASK: the MIRROR by which the most of these that are left, whatever it shows, are fewest; of like ones the first");
        MirrorLies x = open(FOUR);
        due(x.ask(0, 0), 3);
        due(x.ask(1, 0), 1);
        x.look(0, 0);
        due(x.ask(0, 0), 1);
        due(x.ask(1, 0), 1);
        x.look(1, 1);
        due(x.like(0, 0), 1);
        due(x.ask(0, 0), 0);
        due(x.ask(1, 0), 1);
        MirrorLies all = open("marks 8;" + LIE + "9 - 9 * (first = 0) sees 0 to 0;mirror b lie 9 - 9 * (first = 0) sees 0 to 0;");
        due(all.ask(0, 0), 0);
        due(all.ask(1, 0), 256);
        MirrorLies halves = open("marks 8;" + LIE + "9 sees 0 to 0;mirror b lie 9 sees 1 to 1;mirror c lie 9 sees 1 to 2;");
        due(halves.ask(0, 0), 2);
        due(halves.ask(1, 0), 64);
        halves.look(2, 6);
        due(halves.ask(0, 0), 0);
        due(halves.ask(1, 0), 32);
        says(50, "NONE if there are none, no MIRRORS, or for another what");
        due(x.ask(2, 0), NONE);
        due(x.ask(-1, 0), NONE);
        due(x.ask(LEAST, 0), NONE);
        due(x.ask(MOST, 0), NONE);
        x.look(1, 0);
        due(x.ask(0, 0), NONE);
        due(x.ask(1, 0), NONE);
        due(new MirrorLies().ask(0, 0), NONE);
        due(new MirrorLies().ask(1, 0), NONE);
        due(open(BOY).ask(0, 0), NONE);
    }

    private void mean() {
        says(TERMS, "MEAN of a MIRROR: of each of these how many of them have its IMAGE there, all together, by how many these are");
        MirrorLies x = open(FOUR);
        int[][] due = {{11, 4}, {3, 2}, {2, 1}, {1, 1}};
        for (int mirror = 0; mirror < 4; mirror++) {
            due(x.mean(mirror, 0, 0), due[mirror][0]);
            due(x.mean(mirror, 1, 0), due[mirror][1]);
        }
        x.look(3, 0);
        due(x.mean(0, 0, 0), 1);
        due(x.mean(0, 1, 0), 1);
        MirrorLies all = open("marks 8;" + LIE + "9 - 9 * (first = 0) sees 0 to 0;");
        due(all.mean(0, 0, 0), 256);
        due(all.mean(0, 1, 0), 1);
        says(51, "NONE if there are none, or one can't be");
        int[] wrong = {4, -1, LEAST, MOST};
        for (int n : wrong) {
            due(x.mean(n, 0, 0), NONE);
            due(x.mean(n, 1, 0), NONE);
            due(x.mean(0, n, 0), NONE);
        }
        due(x.mean(0, 2, 0), NONE);
        x.look(3, 1);
        due(x.mean(0, 0, 0), NONE);
        due(x.mean(0, 1, 0), NONE);
        due(x.mean(0, 1, -1), 4);
        due(new MirrorLies().mean(0, 0, 0), NONE);
    }

    private void course(MirrorLies x, int looks, int mirror) {
        due(x.course(0, 0), looks);
        due(x.course(1, 0), mirror);
    }

    private void courseOfTen() {
        says(TERMS, "COURSE, of 10 of these at most");
        MirrorLies ten = open(TEN + TRUE_ONE);
        ten.look(0, 1);
        due(ten.like(0, 0), 10);
        course(ten, 1, 1);
        says(52, "-2 of more than 10");
        MirrorLies eleven = open(ELEVEN + TRUE_ONE);
        eleven.look(0, 1);
        due(eleven.like(0, 0), 11);
        course(eleven, -2, -2);
        course(new MirrorLies(), -2, -2);
        course(open("marks 4;"), -2, -2);
        course(open("marks 8;" + LIE + "9;"), -2, -2);
        says(52, "NONE if there are none, if it can't be known, or for another what");
        MirrorLies dark = open(TEN);
        dark.look(0, 1);
        course(dark, NONE, NONE);
        course(open("marks 1;"), NONE, NONE);
        course(open("marks 2;mirror a lie 9 sees 0 to 0;mirror b lie 9 sees 0 to 0;"), NONE, NONE);
        dark.look(0, 0);
        course(dark, NONE, NONE);
        MirrorLies none = open("marks 3;mirror a lie 9;");
        course(none, 1, 0);
        none.look(0, 0);
        none.look(0, 1);
        course(none, NONE, NONE);
        int[] wrong = {2, -1, LEAST, MOST};
        for (int n : wrong) {
            due(ten.course(n, 0), NONE);
            due(eleven.course(n, 0), NONE);
            due(dark.course(n, 0), NONE);
        }
    }

    /** Eight MIRRORS that show a MARK each, and a first one by which nine FACES are left: those with a MARK at most. */
    private static MirrorLies nineLeft() {
        StringBuilder s = new StringBuilder("marks 8;mirror z lie 9 - 9 * (many = 1 and first = 0 or many > 1 and first > 0)"
            + " sees 0 to 0 price 99;");
        for (int mark = 0; mark < 8; mark++) {
            s.append("mirror ").append((char) ('a' + mark)).append(" lie 9 sees ").append(mark).append(" to ").append(mark)
                .append(" price 99;");
        }
        MirrorLies x = open(s.toString());
        x.look(0, 0);
        return x;
    }

    private void courses() {
        says(TERMS, "the fewest looks, each chosen by what was shown, behind which one knows which it is, whichever it is; the MIRROR to"
            + " look into first, of like ones the first");
        MirrorLies nine = nineLeft();
        due(nine.like(0, 0), 9);
        course(nine, 8, 1);
        // By what a shows b or c is looked into: b parts 0 and 2 alone, c parts 1 and 3 alone.
        MirrorLies chosen = open("marks 2;mirror b lie 9 - 8 * (many = 2) sees 1 to 1;"
            + "mirror c lie 9 - 8 * (first = 1) sees 1 to 1;mirror a lie 9 sees 0 to 0;");
        course(chosen, 2, 2);
        course(open("marks 1;mirror a lie 9 sees 0 to 0 dust 9;"), 1, 0);
        course(open("marks 3;mirror a lie 9 sees 0 to 0;mirror b lie 0;mirror c lie 1;"), 1, 1);
        course(open("marks 2;mirror a lie 9 sees 1 to 1;mirror b lie 9 sees 1 to 1;mirror c lie 9 sees 0 to 0;"), 2, 0);
        says(52, "how many looks (0 of one), 1: the MIRROR (NONE: no look)");
        MirrorLies one = open("marks 8;mirror a lie 9;");
        one.look(0, 255);
        course(one, 0, NONE);
        due(one.course(0, -1), -2);
    }

    private void told(MirrorLies x, int count, int set) {
        due(x.tell(0, 0), count);
        due(x.tell(1, 0), set);
    }

    private void paid(MirrorLies x, int prices, int set) {
        due(x.glass(0, 0), prices);
        due(x.glass(1, 0), set);
    }

    private void tell() {
        says(TERMS, "TELL: the fewest MIRRORS that show no two of these alike all together");
        told(nineLeft(), 8, 0b111111110);
        told(open("marks 2;mirror a lie 9 sees 0 to 0;mirror b lie 9 sees 1 to 1;mirror c lie 0;"), 1, 4);
        told(open("marks 8;mirror a lie 9 sees 0 to 6;mirror b lie 9 sees 1 to 7;"), 2, 3);
        told(open("marks 8;" + mirrors(8, "9 sees 0 to 6") + "mirror z lie 9;"), 1, 256);
        says(TERMS, "of like ones the least set as bits");
        told(open("marks 2;mirror a lie 9 sees 0 to 0;mirror b lie 0;mirror c lie 1;"), 1, 2);
        told(open("marks 2;mirror a lie 9 sees 0 to 0;mirror b lie 9 sees 0 to 0;mirror c lie 9 sees 1 to 1;"
            + "mirror d lie 9 sees 1 to 1;"), 2, 5);
        paid(open("marks 2;mirror a lie 0;mirror b lie 0;mirror c lie 0 price 0;mirror d lie 0 price 0;"), 0, 4);
        paid(open("marks 2;mirror a lie 9 sees 0 to 0;mirror b lie 9 sees 1 to 1;mirror c lie 0 price 2;"), 2, 3);
    }

    private void glass() {
        says(TERMS, "GLASS: those of least prices together");
        paid(nineLeft(), 792, 0b111111110);
        paid(open("marks 2;mirror a lie 9 sees 0 to 0;mirror b lie 9 sees 1 to 1;mirror c lie 0 price 3;"), 2, 3);
        paid(open("marks 2;mirror a lie 9 sees 0 to 0 price 2;mirror b lie 9 sees 1 to 1;mirror c lie 0 price 2;"), 2, 4);
        paid(open("marks 2;mirror a lie 9 sees 0 to 0 price 0;mirror b lie 9 price 0;mirror c lie 9 price 0;"), 0, 2);
        paid(open("marks 2;mirror a lie 9 price 99;mirror b lie 9 price 98;"), 98, 2);
        paid(open("marks 2;mirror a lie 9 price 0;mirror b lie 9 sees 0 to 0 price 0;"), 0, 1);
    }

    private void tellRefused() {
        says(53, "NONE if all do not, or for another what. (0 of one, of none.)");
        MirrorLies dark = open("marks 8;mirror a lie 9 sees 0 to 6;mirror b lie 9 sees 0 to 6;");
        told(dark, NONE, NONE);
        told(new MirrorLies(), NONE, NONE);
        MirrorLies x = open("marks 8;mirror a lie 9;mirror b lie 9 sees 0 to 6;");
        told(x, 1, 1);
        int[] wrong = {2, -1, LEAST, MOST};
        for (int n : wrong) {
            due(x.tell(n, 0), NONE);
            due(x.glass(n, 0), NONE);
        }
        x.look(0, 255);
        told(x, 0, 0);
        x.look(0, 0);
        told(x, 0, 0);
        due(x.tell(2, 0), NONE);
        due(x.tell(0, -1), 1);
        says(54, "NONE likewise");
        paid(dark, NONE, NONE);
        paid(new MirrorLies(), NONE, NONE);
        paid(x, 0, 0);
        MirrorLies one = open("marks 8;mirror a lie 9;");
        one.look(0, 255);
        paid(one, 0, 0);
        due(one.glass(2, 0), NONE);
        due(one.glass(-1, 0), NONE);
        due(one.glass(1, -1), 1);
    }
}
