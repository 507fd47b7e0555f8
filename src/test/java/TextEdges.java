/** ==== 1 and promises 1 to 5, 57: the TAPE, the SCHOOL's text, its limits, the FAULTS and their places. */
final class TextEdges extends Edges {
    private static final String[] OWN_WORDS = {"marks", "boy", "has", "mirror", "lie", "sees", "to", "price", "dust",
        "draw", "or", "and", "not", "day", "many", "first", "dusty"};
    // A text with all that can stand in one, its tokens parted by one blank each.
    private static final String WHOLE = "marks 3 ; boy a has 0 1 ; boy b ; mirror m lie not ( 1 + day ) * 2 < 3 - many / 4"
        + " and first % 5 or dusty = 6 sees 0 to 2 price 4 dust 5 ; mirror n lie 7 > 8 ; draw 6 ;";

    TextEdges(Sentences sentences) {
        super(sentences);
    }

    @Override
    void all() {
        texts();
        tokens();
        longTokens();
        letterBehindNumber();
        names();
        widths();
        boys();
        mirrors();
        sights();
        numbers();
        draws();
        units();
        nested();
        faultsByPlace();
        faultTwo();
        faultsThreeAndFour();
        newObject();
        feed();
        end();
        school();
        schoolsInTurn();
        schoolRefused();
        fault();
        about();
    }

    private void fault(String text, int fault, int place) {
        MirrorLies x = new MirrorLies();
        Checks.feed(x, text);
        due(x.about(9), text.length());
        int answer = x.school();
        due(answer == NONE, fault != 0);
        due(x.fault(0), fault);
        due(x.fault(1), place);
    }

    private void fine(String text) {
        fault(text, 0, NONE);
    }

    private void texts() {
        says(TERMS, "A SCHOOL is a text of at most 1,600 bytes");
        fine(" ".repeat(1600));
        due(open(" ".repeat(1593) + "draw 7;").about(4), 7);
        fault(" ".repeat(1594) + "draw 7", 2, 1600);
        fault(" ".repeat(1599) + "?", 1, 1599);
        fault("a".repeat(1600), 1, 0);
        fault("1".repeat(1600), 1, 0);
        says(TERMS, "(empty at first)");
        MirrorLies x = new MirrorLies();
        due(x.about(0), 0);
        due(x.about(1), 0);
        due(x.about(10), 0);
        says(TERMS, "school = {line}");
        fine("");
        fine(" ");
        fine("\n");
        fine("draw 1;");
        fine("boy a;boy b;");
        fault(";", 2, 0);
        fault("draw 1;;", 2, 7);
    }

    private void tokens() {
        says(TERMS, "signs ; ( ) < > = + - * / %; blanks (32, 10) part them or not");
        for (char sign = 0; sign < 256; sign++) {
            boolean blank = sign == 32 || sign == 10;
            boolean known = sign >= 'a' && sign <= 'z' || sign >= '0' && sign <= '9' || ";()<>=+-*/%".indexOf(sign) >= 0;
            fault(String.valueOf(sign), blank ? 0 : known ? 2 : 1, blank ? NONE : 0);
            behindNumber(sign, known);
        }
        fine("marks3;boy a has0 1;mirror m lie(1)sees0 to2 price3 dust2;draw9;");
        fine("\n marks \n\n 3 ; boy\na\nhas\n0\n1\n;\nmirror m lie ( 1 ) sees 0 to 2 ; \n ");
        fine("mirror m lie(1<2)+day>3-many*4/5%first=dusty;".replace("=dusty", "+dusty"));
        fine("mirror m lie not(1=2)and(3)or(4);");
        says(TERMS, "each is as long as can be");
        fault("boyann;", 2, 0);
        fault("draw12 ;", 0, NONE);
        due(open("draw 123;").about(4), 123);
        fault("marks 12;", 4, 6);
        fault("boy a has 10;", 4, 10);
        fault("boy a has 01 1;", 3, 13);
        fault(LIE + "dayday;", 2, 13);
        fault(LIE + "notmany;", 2, 13);
        fault(LIE + "many1;", 2, 17);
        fault(LIE + "dus ty;", 2, 13);
        due(open(LIE + "dusty dust 3;").lie(0, 0), 3);
    }

    private void behindNumber(char sign, boolean known) {
        String text = "draw 1" + sign + ";";
        if (sign == 32 || sign == 10 || sign >= '0' && sign <= '9') {
            fine(text);
        } else if (sign >= 'a' && sign <= 'z') {
            fault(text, 1, 5);
        } else if (sign == ';') {
            fault(text, 2, 7);
        } else {
            fault(text, known ? 2 : 1, 6);
        }
    }

    private void longTokens() {
        says(TERMS, "words (a .. z, 8 at most)");
        fine("boy a;");
        fine("boy z;");
        fine("boy abcdefgh;");
        fault("boy abcdefghi;", 1, 4);
        fine("mirror zzzzzzzz lie 0;");
        fault("mirror zzzzzzzzz lie 0;", 1, 7);
        fault("mirrorabc lie 0;", 1, 0);
        fault("mirrorab lie 0;", 2, 0);
        fine("boy abcdefgh;boy abcdefgi;boy bbcdefgh;");
        fault("boy abcdefgh;boy abcdefgh;", 3, 17);
        says(TERMS, "N (1 to 4 digits)");
        fine("marks 8;");
        fine("marks 0008;");
        fault("marks 00008;", 1, 6);
        fine(LIE + "9999;");
        fault(LIE + "99999;", 1, 13);
        due(open(LIE + "9999 - 9997;").lie(0, 0), 2);
        due(open("draw 0999;").about(4), 999);
    }

    private void letterBehindNumber() {
        says(TERMS, "no letter directly behind an N");
        fault("marks 4x;", 1, 6);
        fault("marks 4a;", 1, 6);
        fault("marks 4z;", 1, 6);
        fault("marks 4 x;", 2, 8);
        fault("boy a has 0boy b;", 1, 10);
        fault("boy a has 0 1boy b;", 1, 12);
        fault(LIE + "1and 2;", 1, 13);
        fault(LIE + "1234or 2;", 1, 13);
        fine(LIE + "1 and 2;");
        fault(LIE + "1 sees 0to 2;", 1, 20);
        fault(LIE + "1 sees 0 to 2price 3;", 1, 25);
        fine(LIE + "1 sees0 to2 price3 dust4;");
    }

    private void names() {
        says(TERMS, "Words that stand for themselves here are no NAMES");
        for (String word : OWN_WORDS) {
            fault("boy " + word + ";", 2, 4);
            fault("mirror " + word + " lie 0;", 2, 7);
            fine("boy " + word + "s;");
            fine("mirror x" + word + " lie 0;");
            fine("boy " + word.substring(1) + "x;");
        }
        fault("boy ;", 2, 4);
        fault("boy 7;", 2, 4);
        fault("mirror lie 0;", 2, 7);
    }

    private void widths() {
        says(TERMS, "marks (the WIDTH, 1 .. 8; 6 if not told)");
        for (int width = 1; width <= 8; width++) {
            due(open("marks " + width + ";").about(2), width);
        }
        fault("marks 0;", 4, 6);
        fault("marks 9;", 4, 6);
        fault("marks 9999;", 4, 6);
        due(open("boy a;").about(2), 6);
        MirrorLies x = open("marks 8;");
        Checks.feed(x, "draw 1;");
        due(x.school(), 0);
        due(x.about(2), 6);
        says(TERMS, "once, ahead of all others");
        fault("marks 3;marks 3;", 2, 8);
        fault("boy a;marks 3;", 2, 6);
        fault("mirror a lie 0;marks 3;", 2, 15);
        fault("draw 1;marks 3;", 2, 7);
        fault("marks 3;boy a; marks 3;", 2, 15);
        fault("marks 3;marks", 2, 8);
    }

    private void boys() {
        says(TERMS, "at most 4 BOYS");
        String four = "boy a;boy b;boy c;boy d;";
        due(open(four).about(1), 4);
        fault(four + " boy e;", 2, 25);
        fault(four + "boy", 2, 24);
        fault(four + "boy a;", 2, 24);
        due(open(four + mirrors(9, "0")).about(0), 9);
        says(TERMS, "(MARKS 0 .. WIDTH - 1, each once)");
        for (int width = 1; width <= 8; width++) {
            String marks = "marks " + width + ";boy a has ";
            due(open(marks + (width - 1) + ";").face(0), 1 << width - 1);
            fault(marks + width + ";", 4, 18);
            fault(marks + "9999;", 4, 18);
            StringBuilder all = new StringBuilder(marks);
            for (int mark = width - 1; mark >= 0; mark--) {
                all.append(mark).append(' ');
            }
            due(open(all + ";").face(0), (1 << width) - 1);
            fault(all + "0;", 3, all.length());
            fault(all + "" + (width - 1) + ";", 3, all.length());
            fault(all + "" + width + ";", 4, all.length());
        }
        fault("boy a has 5 6;", 4, 12);
        // Beyond the bits of an int, too, it is no MARK that was told already.
        fault("boy a has 0 32;", 4, 12);
        fault("boy a has 1 2 33;", 4, 14);
        fault("boy a has 5 9989;", 4, 12);
        fault("boy a has ;", 2, 10);
        due(open("boy a;").face(0), 0);
        fine("boy a has 3;boy b has 3;");
    }

    private void mirrors() {
        says(TERMS, "9 MIRRORS");
        due(open(mirrors(9, "0")).about(0), 9);
        fault(mirrors(9, "0") + "\nmirror j lie 0;", 2, 136);
        fault(mirrors(9, "0") + "mirror", 2, 135);
        fault(mirrors(9, "0") + "mirror a lie 0;", 2, 135);
        fine(mirrors(9, "0") + "boy a;draw 1;");
        says(TERMS, "numbered as told, each sort by itself");
        MirrorLies x = open("boy z has 1;mirror z lie 0 price 5;boy y has 2;mirror a lie 0 price 6;draw 9;boy x has 3;");
        due(x.face(0), 2);
        due(x.face(1), 4);
        due(x.face(2), 8);
        due(x.mirror(0, 1), 5);
        due(x.mirror(1, 1), 6);
        due(x.about(4), 9);
    }

    private void sights() {
        says(TERMS, "(sees: from a MARK to one not less, all if not told;");
        for (int width = 1; width <= 8; width++) {
            String mirror = "marks " + width + ";" + LIE + "0";
            due(open(mirror + ";").mirror(0, 0), (1 << width) - 1);
            due(open(mirror + " sees 0 to " + (width - 1) + ";").mirror(0, 0), (1 << width) - 1);
            due(open(mirror + " sees " + (width - 1) + " to " + (width - 1) + ";").mirror(0, 0), 1 << width - 1);
            due(open(mirror + " sees 0 to 0;").mirror(0, 0), 1);
            fault(mirror + " sees " + width + " to " + width + ";", 4, 28);
            fault(mirror + " sees 0 to " + width + ";", 4, 33);
            fault(mirror + " sees 9999", 4, 28);
        }
        due(open(LIE + "0 sees 2 to 4;").mirror(0, 0), 28);
        fault(LIE + "0 sees 3 to 2;", 4, 25);
        fault(LIE + "0 sees 5 to 0;", 4, 25);
        fault(LIE + "0 sees 1 to 6;", 4, 25);
    }

    private void numbers() {
        says(TERMS, "price 0 .. 99, 1 if not told;");
        due(open(LIE + "0 price 0;").mirror(0, 1), 0);
        due(open(LIE + "0 price 99;").mirror(0, 1), 99);
        due(open(LIE + "0;").mirror(0, 1), 1);
        due(open(LIE + "0 dust 7;").mirror(0, 1), 1);
        fault(LIE + "0 price 100;", 4, 21);
        fault(LIE + "0 price 9999;", 4, 21);
        says(TERMS, "dust 0 .. 9, 0)");
        due(open(LIE + "0 dust 0;").mirror(0, 2), 0);
        due(open(LIE + "0 dust 9;").mirror(0, 2), 9);
        due(open(LIE + "0;").mirror(0, 2), 0);
        due(open("mirror a lie 0 dust 4;mirror b lie 0;").mirror(1, 2), 0);
        due(open("mirror a lie 0 price 4;mirror b lie 0;").mirror(1, 1), 1);
        fault(LIE + "0 dust 10;", 4, 20);
        fault(LIE + "0 dust 9999;", 4, 20);
    }

    private void draws() {
        says(TERMS, "draw (0 .. 999; 0) once");
        due(open("draw 0;").about(4), 0);
        due(open("draw 999;").about(4), 999);
        due(open("boy a;").about(4), 0);
        fault("draw 1000;", 4, 5);
        fault("draw 9999;", 4, 5);
        fault("draw 1;draw 1;", 2, 7);
        fault("draw 0;boy a; draw", 2, 14);
        MirrorLies x = open("draw 5;");
        Checks.feed(x, "draw 6;");
        due(x.school(), 0);
        due(x.about(4), 6);
        Checks.feed(x, "boy a;");
        due(x.school(), 0);
        due(x.about(4), 0);
    }

    private void units() {
        String thirty = "1" + "+1".repeat(29);
        says(TERMS, "30 in one e");
        due(open(LIE + thirty + ";").about(10), 30);
        fault(LIE + thirty + " + 1;", 2, 75);
        fault(LIE + thirty + "*day;", 2, 73);
        fault(LIE + thirty + "+(1);", 2, 73);
        fault(LIE + "1" + "+1".repeat(28) + "+(1);", 2, 72);
        due(open(LIE + "1" + "+1".repeat(27) + "+(1);").about(10), 30);
        fault(LIE + "((((((1" + "+1".repeat(23) + ")))))) + 1;", 2, 13 + 7 + 46 + 6 + 3);
        due(open(LIE + "((((((1" + "+1".repeat(23) + "))))));").about(10), 30);
        due(open(LIE + "not not 1;").about(10), 1);
        due(open(LIE + "1 < 2 and 3 = 4 or day;").about(10), 5);
        due(open(mirrors(2, thirty)).about(10), 60);
        says(TERMS, "90 units in all");
        String ninety = mirrors(3, thirty);
        due(open(ninety).about(10), 90);
        fault(ninety + "mirror d lie 1;", 2, ninety.length() + 13);
        fault(ninety + "mirror d lie (1);", 2, ninety.length() + 13);
        fault(ninety + "mirror d lie not 1;", 2, ninety.length() + 17);
        String eighty = mirrors(8, "1" + "+1".repeat(9));
        due(open(eighty + "mirror z lie 1" + "+1".repeat(9) + ";").about(10), 90);
        fault(eighty + "mirror z lie 1" + "+1".repeat(10) + ";", 2, eighty.length() + 33);
        fault(eighty + "mirror z lie 1" + "+1".repeat(8) + "+(1);", 2, eighty.length() + 13 + 17 + 2);
        // As many steps of formulas as a text can hold: nots take the least room.
        String nots = mirrors(9, "not not not not not not not 1 and not not not not not not not 0 or "
            + "not not not not not not not 1 and not not not not not not not 2 or not not not not not not not 0");
        due(open(nots).about(10), 45);
        due(open(nots).lie(8, 0), 1);
    }

    private void nested() {
        says(TERMS, "(a unit ( e ), or a one behind not, within 6 others at most)");
        fine(LIE + "(((((((1)))))));");
        fault(LIE + "((((((((1))))))));", 2, 20);
        fine(LIE + "not not not not not not not 1;");
        fault(LIE + "not not not not not not not not 1;", 2, 41);
        fine(LIE + "((((((not 1))))));");
        fault(LIE + "(((((((not 1)))))));", 2, 20);
        fine(LIE + "not ((((((1))))));");
        fault(LIE + "not (((((((1)))))));", 2, 23);
        fine(LIE + "not(not(not(not 1)));");
        fault(LIE + "not(not(not(not(1))));", 2, 28);
        fault(LIE + "(not(not(not(not 1))));", 2, 26);
        // Ones beside each other are not within each other, and a not ends with its one.
        fine(LIE + "(1)+(1)+(1)+(1)+(1)+(1)+(1)+(1);");
        fine(LIE + "not 1 and not 1 and not 1 and not 1 and not 1 and not 1 and not 1 and not 1;");
        fine(LIE + "((((((1))))))+((((((1))))));");
        fine(LIE + "not 1 or (((((((1)))))));");
        fault(LIE + "not 1 < ((((((((1))))))));", 2, 27);
        fine(LIE + "not 1 < ((((((1))))));");
        fine(mirrors(2, "(((((((1)))))))"));
        fault(LIE + "(".repeat(1587), 2, 20);
        fault(LIE + "not ".repeat(396), 2, 41);
    }

    private void faultsByPlace() {
        says(TERMS, "FAULTS, the first by its place (bytes from 0; the end: the text's length)");
        fault("?", 1, 0);
        fault("marks 9 ?", 4, 6);
        fault("boy a has 9;?", 4, 10);
        fault("boy a;boy a;?", 3, 10);
        fault("x marks 9;", 2, 0);
        fault("? marks 9;", 1, 0);
        fault("marks 3;boy a has 3 3;", 4, 18);
        fault("marks", 2, 5);
        fault("marks \n ", 2, 8);
        fault("marks 3", 2, 7);
        String[] tokens = WHOLE.split(" ");
        StringBuilder before = new StringBuilder();
        for (String token : tokens) {
            boolean whole = before.length() == 0 || before.toString().endsWith("; ");
            fault(before.toString(), whole ? 0 : 2, whole ? NONE : before.length());
            String behind = WHOLE.substring(before.length());
            fault(before + "? " + behind, 1, before.length());
            // "to" can stand in one place alone: ahead of itself the second one can't.
            fault(before + "to " + behind, 2, before.length() + (token.equals("to") ? 3 : 0));
            before.append(token).append(' ');
        }
        fine(WHOLE);
        says(TERMS, "at one place the least");
        fault("marks 9x;", 1, 6);
        fault("boy a has 1 1x;", 1, 12);
        fault("boy a has 12345;", 1, 10);
        fault("marks 3 99;", 2, 8);
        fault("boy a a;", 2, 6);
        fault("boy a;mirror a lie a;", 2, 19);
        fault("boy a has 0 sees;", 2, 12);
        fault(LIE + "1" + "+1".repeat(29) + "+?;", 1, 73);
        fault(LIE + "(((((((?", 1, 20);
        fault("boy a;boy b;boy c;boy d;? boy e;", 1, 24);
        fault("draw 1;draw 1000;", 2, 7);
        fault("marks 3;marks 9;", 2, 8);
    }

    private void faultTwo() {
        says(TERMS, "1 no TOKEN; 2 one that can't stand there");
        fault("ann", 2, 0);
        fault("4", 2, 0);
        fault("has", 2, 0);
        fault("marks ;", 2, 6);
        fault("marks x;", 2, 6);
        fault("draw ;", 2, 5);
        fault("draw draw;", 2, 5);
        fault("boy a 1;", 2, 6);
        fault("boy a has 1 has 2;", 2, 12);
        fault("mirror a;", 2, 8);
        fault("mirror a 0;", 2, 9);
        fault(LIE + ";", 2, 13);
        fault(LIE + "1 1;", 2, 15);
        fault(LIE + "1 +;", 2, 16);
        fault(LIE + "1 + + 1;", 2, 17);
        fault(LIE + "- 1;", 2, 13);
        fault(LIE + "1 < 2 < 3;", 2, 19);
        fault(LIE + "1 = 2 > 3;", 2, 19);
        fine(LIE + "(1 < 2) < 3;");
        fault(LIE + "1 + not 1;", 2, 17);
        fault(LIE + "1 < not 1;", 2, 17);
        fine(LIE + "1 and not 1;");
        fault(LIE + "not;", 2, 16);
        fault(LIE + "();", 2, 14);
        fault(LIE + "(1;", 2, 15);
        fault(LIE + "1);", 2, 14);
        fault(LIE + "1 sees;", 2, 19);
        fault(LIE + "1 sees 0;", 2, 21);
        fault(LIE + "1 sees 0 1;", 2, 22);
        fault(LIE + "1 price;", 2, 20);
        fault(LIE + "1 dust;", 2, 19);
        fault(LIE + "1 sees 0 to 1 sees 0 to 1;", 2, 27);
        fault(LIE + "1 price 1 price 1;", 2, 23);
        fault(LIE + "1 dust 1 dust 1;", 2, 22);
        fault(LIE + "1 price 1 sees 0 to 1;", 2, 23);
        fault(LIE + "1 dust 1 sees 0 to 1;", 2, 22);
        fault(LIE + "1 dust 1 price 1;", 2, 22);
        says(TERMS, "(one of a sort too many, a second time, marks behind another line: at the line's first word;");
        fault("boy a;boy b;boy c;boy d;\n boy 1 ?", 2, 26);
        fault(mirrors(9, "0") + "  mirror ?", 2, 137);
        fault("draw 1; draw ?", 2, 8);
        fault("marks 2; marks ?", 2, 9);
        fault("boy a; marks ?", 2, 7);
        says(TERMS, "a unit too many, what is within 7 others: at its first TOKEN, or the not)");
        fault(LIE + "1" + "+1".repeat(29) + "+ ( 1 );", 2, 74);
        fault(LIE + "1" + "+1".repeat(29) + "+ many;", 2, 74);
        fault(LIE + "1" + "+1".repeat(29) + " and not 1;", 2, 81);
        fault(LIE + "(((((((  (", 2, 22);
        fault(LIE + "(((((((  not not", 2, 22);
    }

    private void faultsThreeAndFour() {
        says(TERMS, "3 a NAME told already (of its sort), a MARK told already;");
        fault("boy a;boy a;", 3, 10);
        fault("boy a;boy b;boy c;boy a", 3, 22);
        fault("boy a;boy b;boy c;boy c", 3, 22);
        fault(LIE + "0;mirror a lie 0;", 3, 22);
        fault(mirrors(8, "0") + "mirror h lie 0;", 3, 127);
        fault(mirrors(8, "0") + "mirror a lie 0;", 3, 127);
        fine("boy a;mirror a lie 0;");
        fine("mirror a lie 0;boy a;");
        fault("boy a has 0 0;", 3, 12);
        fault("boy a has 5 0 05;", 3, 14);
        MirrorLies x = open("boy a;" + LIE + "0;");
        Checks.feed(x, "boy a;" + LIE + "0;");
        due(x.school(), 1);
        says(TERMS, "4 a number that can't be");
        fault("marks 0", 4, 6);
        fault("marks 9", 4, 6);
        fault("boy a has 6", 4, 10);
        fault("draw 1000", 4, 5);
        fault(LIE + "0 sees 6", 4, 20);
        fault(LIE + "0 sees 1 to 0", 4, 25);
        fault(LIE + "0 price 100", 4, 21);
        fault(LIE + "0 dust 10", 4, 20);
    }

    private void newObject() {
        says(1, "An empty SCHOOL.");
        MirrorLies x = new MirrorLies();
        int[] all = {0, 0, 6, 0, 0, 0, 0, 0, 0, 0, 0, 0};
        for (int what = 0; what < all.length; what++) {
            due(x.about(what), all[what]);
        }
        due(x.fault(0), 0);
        due(x.fault(1), NONE);
        due(x.undo(), false);
        due(x.redo(), false);
        due(x.lies(0), NONE);
        for (int box = 0; box < 3; box++) {
            due(x.back(box), NONE);
            due(x.changed(box), NONE);
        }
        due(x.school(), 0);
        says(TERMS, "An object is used for at most 512 calls after it has been made");
        MirrorLies used = new MirrorLies();
        for (int call = 1; call <= 512; call++) {
            due(used.night(), call);
        }
        MirrorLies asked = open(BOY);
        for (int call = 4; call <= 512; call++) {
            due(asked.mark(0, 5), call % 2 == 0 ? 32 : 0);
        }
    }

    private void feed() {
        says(2, "how many there are");
        MirrorLies x = new MirrorLies();
        int[] blanks = Checks.numbers(" ".repeat(20));
        for (int i = 1; i <= 80; i++) {
            due(x.feed(blanks[0], blanks[1], blanks[2], blanks[3], blanks[4]), i * 20);
        }
        says(2, "NONE, and nothing comes, if there would be more than 1,600");
        due(x.feed(-1, -1, -1, -1, -1), NONE);
        due(x.about(9), 1600);
        due(x.end(1581), 1581);
        due(x.feed(-1, -1, -1, -1, -1), NONE);
        due(x.about(9), 1581);
        due(x.end(1580), 1580);
        due(x.feed(blanks[0], blanks[1], blanks[2], blanks[3], blanks[4]), 1600);
        due(x.school(), 0);
        due(x.about(9), 0);
        due(x.feed(0, 0, 0, 0, 0), 20);
        says(2, "Twenty bytes come behind those on the TAPE, of each number the highest first");
        MirrorLies y = new MirrorLies();
        Checks.feed(y, "draw 12");
        due(y.about(9), 7);
        due(y.feed(0x333b2020, 0x20202020, 0x20202020, 0x20202020, 0x20202020), 27);
        due(y.school(), 0);
        due(y.about(4), 123);
        due(y.feed(0x64726177, 0x20363b62, 0x6f792061, 0x3b626f79, 0x20623bff), 20);
        due(y.school(), NONE);
        due(y.fault(0), 1);
        due(y.fault(1), 19);
        due(y.end(19), 19);
        due(y.school(), 0);
        due(y.about(1), 2);
    }

    private void end() {
        says(3, "The TAPE has its first n bytes: n");
        MirrorLies x = new MirrorLies();
        due(x.end(0), 0);
        Checks.feed(x, "draw 1;draw 2;");
        due(x.end(14), 14);
        due(x.end(7), 7);
        due(x.about(9), 7);
        says(3, "NONE, doing nothing, if it has not so many, or n is below 0");
        due(x.end(8), NONE);
        due(x.end(14), NONE);
        due(x.end(MOST), NONE);
        due(x.end(-1), NONE);
        due(x.end(LEAST), NONE);
        due(x.about(9), 7);
        due(x.school(), 0);
        due(x.about(4), 1);
        due(x.end(1), NONE);
        due(x.end(0), 0);
    }

    /** A school with something of everything done in it. */
    private static MirrorLies lived() {
        MirrorLies x = open(FOUR);
        x.later(2);
        x.look(0, 0);
        x.mark(0, 1);
        x.crack(1, 1);
        x.breathe(0);
        x.night();
        x.night();
        x.undo();
        x.image(0);
        x.image(1);
        x.image(2);
        x.hang(0);
        return x;
    }

    private void school() {
        says(4, "The TAPE (empty then) is the SCHOOL (all as told, day 0, no ACTS are kept, no LOOKS are, nothing lies there,"
            + " BOXES are empty then; the TIME stays)");
        MirrorLies x = lived();
        due(x.about(3), 1);
        due(x.about(5), 4);
        due(x.about(6), 1);
        due(x.about(11) > 0, true);
        Checks.feed(x, FOUR);
        due(x.school(), 4);
        int[] all = {4, 3, 3, 0, 10, 0, 0, 0, 2, 0, 5, 0};
        for (int what = 0; what < all.length; what++) {
            due(x.about(what), all[what]);
        }
        due(x.face(0), 1);
        due(x.mirror(0, 2), 0);
        due(x.mirror(1, 3), 0);
        due(x.undo(), false);
        due(x.redo(), false);
        due(x.lies(0), NONE);
        due(x.untell(0), false);
        due(x.like(0, 2), 8);
        for (int box = 0; box < 3; box++) {
            due(x.changed(box), NONE);
            due(x.back(box), NONE);
        }
        due(x.look(1, 1), 0);
        Checks.feed(x, "");
        due(x.school(), 0);
        due(x.about(1), 0);
        due(x.about(2), 6);
    }

    private void schoolsInTurn() {
        says(4, "(all as told, day 0");
        MirrorLies x = open("marks 3;boy a has 0;mirror m lie 2 sees 0 to 1 price 7 dust 3;");
        due(x.hall(0, 0, NONE, NONE, NONE), 1);
        Checks.feed(x, "marks 3;boy a has 0;mirror m lie not 1;");
        due(x.school(), 1);
        due(x.hall(0, 0, NONE, NONE, NONE), 0);
        due(x.mirror(0, 0), 7);
        due(x.mirror(0, 1), 1);
        due(x.mirror(0, 2), 0);
        Checks.feed(x, "marks 3;boy a has 0;mirror m lie 1;");
        due(x.school(), 1);
        due(x.lie(0, 0), 1);
        due(x.hall(0, 0, NONE, NONE, NONE), 3);
        // As many as one object can take, each with all the units that can be.
        for (int i = 0; i < 20; i++) {
            Checks.feed(x, mirrors(3, i % 6 + "+0".repeat(29)));
            due(x.school(), 3);
            due(x.about(10), 90);
            due(x.lie(2, 0), i % 6);
        }
    }

    private void schoolRefused() {
        says(4, "NONE: a FAULT (all stays)");
        MirrorLies x = lived();
        String before = state(x);
        due(x.school(), 0);
        due(x.about(0), 0);
        x = lived();
        Checks.feed(x, "marks 8;boy z has 7;mirror y lie 0 price 9 dust 9;draw 5;?");
        due(x.about(9), 58);
        due(x.school(), NONE);
        due(x.about(9), 58);
        due(x.fault(0), 1);
        due(x.fault(1), 57);
        due(x.end(0), 0);
        due(state(x).replace("fault 1 57", "fault 0 -1").equals(before), true);
        due(x.redo(), true);
        due(x.about(3), 2);
        due(x.undo(), true);
        due(x.back(2), 1);
        due(x.untell(0), true);
        // The TAPE stays too: it can be mended and read.
        Checks.feed(x, "boy a;?");
        due(x.school(), NONE);
        due(x.end(6), 6);
        due(x.school(), 0);
        due(x.about(1), 1);
    }

    private void fault() {
        says(5, "Of the latest school() what 0: its FAULT (0), 1: its place (NONE)");
        MirrorLies x = new MirrorLies();
        Checks.feed(x, "marks 9;");
        due(x.fault(0), 0);
        due(x.fault(1), NONE);
        due(x.school(), NONE);
        due(x.fault(0), 4);
        due(x.fault(1), 6);
        due(x.end(0), 0);
        due(x.fault(0), 4);
        due(x.fault(1), 6);
        Checks.feed(x, "?");
        due(x.school(), NONE);
        due(x.fault(0), 1);
        due(x.fault(1), 0);
        due(x.end(0), 0);
        due(x.school(), 0);
        due(x.fault(0), 0);
        due(x.fault(1), NONE);
        says(5, "NONE for another what");
        Checks.feed(x, "?");
        due(x.school(), NONE);
        due(x.fault(2), NONE);
        due(x.fault(-1), NONE);
        due(x.fault(LEAST), NONE);
        due(x.fault(MOST), NONE);
    }

    private void about() {
        says(57, "NONE for another what");
        MirrorLies x = lived();
        due(x.about(-1), NONE);
        due(x.about(12), NONE);
        due(x.about(LEAST), NONE);
        due(x.about(MOST), NONE);
        says(57, "What 0: MIRRORS, 1: BOYS, 2: WIDTH, 3: the day, 4: the SEED, 5: ACTS that can be undone, 6: redone, 7: LOOKS,"
            + " 8: the TIME, 9: bytes on the TAPE, 10: units, 11: numbers that lie there");
        Checks.feed(x, "boy");
        int[] all = {4, 3, 3, 1, 441, 4, 1, 1, 2, 3, 5, 1};
        for (int what = 0; what < all.length; what++) {
            due(x.about(what), all[what]);
        }
        due(x.untell(0), true);
        due(x.about(7), 1);
    }
}
