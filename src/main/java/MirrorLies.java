import java.util.Arrays;

/** A school of mirrors each of which shows all as it is but for one thing. README.md says how to use it. */
public final class MirrorLies {
    public static final int NONE = -1;

    private static final int TAPE_LIMIT = 1600;
    private static final int FED_BYTES = 20;
    private static final int BOY_LIMIT = 4;
    private static final int MIRROR_LIMIT = 9;
    private static final int WIDTH_LIMIT = 8;
    private static final int FACE_LIMIT = 256;
    private static final int USUAL_WIDTH = 6;
    private static final int UNIT_LIMIT = 90;
    private static final int UNITS_IN_ONE = 30;
    private static final int NESTED_LIMIT = 7;
    // 90 units, 89 joins, and a "not" takes four of 1,600 bytes: no school needs more steps.
    private static final int STEP_LIMIT = 640;
    private static final int MOST_DUST = 9;
    private static final int BLIND_DUST = 5;
    private static final int BREATH = 3;
    private static final int LAST_DAY = 9999;
    private static final int MOST_NIGHTS = 200;
    private static final int MOST_CRACK = 7;
    private static final int ROW_LIMIT = 4;
    private static final int MEND_LIMIT = 2;
    private static final int BOX_LIMIT = 3;
    private static final int ACT_LIMIT = 40;
    private static final int LOOK_LIMIT = 30;
    private static final int LONGEST_STEP = 1000;
    private static final int LAST_TIME = 100000;
    private static final int COURSE_LIMIT = 10;
    private static final int SOME = -2;
    private static final int TOO_MANY = -2;

    // Kinds of tokens; a sign's kind is its character, so these stay below the first sign's, 37.
    private static final int END = 0;
    private static final int BAD = 1;
    private static final int NUMBER = 2;
    private static final int NAME = 3;
    private static final int MARKS = 4;
    private static final int BOY = 5;
    private static final int HAS = 6;
    private static final int MIRROR = 7;
    private static final int LIE = 8;
    private static final int SEES = 9;
    private static final int TO = 10;
    private static final int PRICE = 11;
    private static final int DUST = 12;
    private static final int DRAW = 13;
    private static final int OR = 14;
    private static final int AND = 15;
    private static final int NOT = 16;
    private static final int DAY = 17;
    private static final int MANY = 18;
    private static final int FIRST = 19;
    private static final int DUSTY = 20;

    private static final int NO_TOKEN = 1;
    private static final int MISPLACED = 2;
    private static final int TOLD_ALREADY = 3;
    private static final int WRONG_NUMBER = 4;

    // Kinds of ACTS.
    private static final int MARKING = 0;
    private static final int BREATHING = 1;
    private static final int WIPING = 2;
    private static final int CRACKING = 3;
    private static final int NIGHTFALL = 4;

    private final Tape tape = new Tape();
    private final School school = new School();
    private final School draft = new School();
    private final Reader reader = new Reader(tape, draft);
    private final Hour now = new Hour();
    private final Hour ahead = new Hour();
    private final Acts acts = new Acts(school, now);
    private final Hour[] boxes = new Hour[BOX_LIMIT];
    private final boolean[] kept = new boolean[BOX_LIMIT];
    private final Panes panes = new Panes(school, now);
    private final Search search = new Search(school, now, panes);
    private final Looks looks = new Looks();
    private final Likes likes = new Likes(school, panes, looks);
    private final Course plan = new Course(school, panes, likes);
    private final Telling telling = new Telling(school, panes, likes);

    public MirrorLies() {
        for (int box = 0; box < BOX_LIMIT; box++) {
            boxes[box] = new Hour();
        }
        now.start(school);
    }

    public int feed(int a, int b, int c, int d, int e) {
        if (tape.length > TAPE_LIMIT - FED_BYTES) {
            return NONE;
        }
        tape.put(a);
        tape.put(b);
        tape.put(c);
        tape.put(d);
        tape.put(e);
        return tape.length;
    }

    public int end(int n) {
        if (n < 0 || n > tape.length) {
            return NONE;
        }
        tape.length = n;
        return n;
    }

    public int school() {
        if (!reader.readsAll()) {
            return NONE;
        }
        school.take(draft);
        tape.length = 0;
        now.start(school);
        acts.forget();
        panes.forget();
        looks.count = 0;
        search.clear();
        for (int box = 0; box < BOX_LIMIT; box++) {
            kept[box] = false;
        }
        return school.mirrors;
    }

    public int fault(int what) {
        if (what == 0) {
            return reader.fault;
        }
        return what == 1 ? reader.place : NONE;
    }

    public int face(int boy) {
        return hasBoy(boy) ? now.faces[boy] : NONE;
    }

    public int mirror(int mirror, int what) {
        if (!hasMirror(mirror)) {
            return NONE;
        }
        switch (what) {
            case 0:
                return school.sees[mirror];
            case 1:
                return school.price[mirror];
            case 2:
                return now.dust[mirror];
            case 3:
                return now.cracks[mirror];
            default:
                return NONE;
        }
    }

    public int lie(int mirror, int face) {
        if (!hasMirror(mirror) || !hasFace(face)) {
            return NONE;
        }
        return lieNow(mirror, face);
    }

    public int shows(int mirror, int face) {
        if (!hasMirror(mirror) || !hasFace(face)) {
            return NONE;
        }
        return school.shown(mirror, face, lieNow(mirror, face));
    }

    public int mark(int boy, int mark) {
        if (!hasBoy(boy) || !hasMark(mark)) {
            return NONE;
        }
        acts.add(MARKING, boy, mark);
        return now.faces[boy];
    }

    public int breathe(int mirror) {
        if (!hasMirror(mirror)) {
            return NONE;
        }
        acts.add(BREATHING, mirror, BREATH);
        panes.forget();
        return now.dust[mirror];
    }

    public int wipe(int mirror) {
        if (!hasMirror(mirror)) {
            return NONE;
        }
        int had = now.dust[mirror];
        acts.add(WIPING, mirror, 0);
        panes.forget();
        return had;
    }

    public int crack(int mirror, int by) {
        if (!hasMirror(mirror) || by < 1 || by > MOST_CRACK) {
            return NONE;
        }
        acts.add(CRACKING, mirror, by);
        panes.forget();
        return now.cracks[mirror];
    }

    public int night() {
        if (now.day >= LAST_DAY) {
            return NONE;
        }
        acts.add(NIGHTFALL, now.dustedNext(school.mirrors), 0);
        panes.forget();
        return now.day;
    }

    public boolean undo() {
        panes.forget();
        return acts.takeBack();
    }

    public boolean redo() {
        panes.forget();
        return acts.doAgain();
    }

    public int hall(int boy, int a, int b, int c, int d) {
        if (!hasBoy(boy)) {
            return NONE;
        }
        int length = a == NONE ? 0 : b == NONE ? 1 : c == NONE ? 2 : d == NONE ? 3 : ROW_LIMIT;
        int seen = now.faces[boy];
        for (int i = 0; i < length; i++) {
            int mirror = i == 0 ? a : i == 1 ? b : i == 2 ? c : d;
            if (!hasMirror(mirror)) {
                return NONE;
            }
            seen = panes.row(mirror)[seen];
        }
        return seen;
    }

    public int round(int boy, int mirror, int what) {
        if (!hasBoy(boy) || !hasMirror(mirror)) {
            return NONE;
        }
        panes.goRound(now.faces[boy], panes.row(mirror), panes.row(mirror), false);
        return oneOf(what, panes.firstTurn, panes.fewerTurns);
    }

    public int facing(int boy, int mirror, int other, int what) {
        if (!hasBoy(boy) || !hasMirror(mirror) || !hasMirror(other)) {
            return NONE;
        }
        panes.goRound(now.faces[boy], panes.row(mirror), panes.row(other), true);
        return oneOf(what, panes.firstTurn, panes.fewerTurns);
    }

    public int sights(int boy) {
        return hasBoy(boy) ? search.seenBy(now.faces[boy]) : NONE;
    }

    public int blind(int n) {
        if (n < 0 || n > MOST_NIGHTS) {
            return NONE;
        }
        ahead.take(now);
        for (int night = 0; night < n; night++) {
            ahead.passNight(school.mirrors);
        }
        return ahead.blindOnes(school.mirrors);
    }

    public int moled(int boy, int what) {
        if (!hasBoy(boy)) {
            return NONE;
        }
        int best = NONE;
        int most = 0;
        for (int mark = 0; mark < school.width; mark++) {
            int liars = liarsAbout(mark, now.faces[boy]);
            if (liars > most) {
                best = mark;
                most = liars;
            }
        }
        return best == NONE ? NONE : oneOf(what, best, most);
    }

    public int mend(int mirror, int boy) {
        search.clear();
        if (!hasMirror(mirror) || !hasBoy(boy)) {
            return NONE;
        }
        return search.fewestActs(mirror, now.faces[boy]);
    }

    public int hang(int boy) {
        search.clear();
        if (!hasBoy(boy)) {
            return NONE;
        }
        return search.fewestMirrors(now.faces[boy], now.faces[boy], 1);
    }

    public int dream(int boy, int face) {
        search.clear();
        if (!hasBoy(boy) || !hasFace(face)) {
            return NONE;
        }
        return search.fewestMirrors(now.faces[boy], face, 0);
    }

    public int hangs(int boy, int n) {
        if (!hasBoy(boy) || n < 1 || n > ROW_LIMIT) {
            return NONE;
        }
        return search.howMany(now.faces[boy], now.faces[boy], n);
    }

    public int trues() {
        int set = 0;
        for (int mirror = 0; mirror < school.mirrors; mirror++) {
            if (fixedFaces(mirror) == school.faceCount()) {
                set |= 1 << mirror;
            }
        }
        return set;
    }

    public int honest(int boy) {
        if (!hasBoy(boy)) {
            return NONE;
        }
        int set = 0;
        for (int mirror = 0; mirror < school.mirrors; mirror++) {
            if (panes.row(mirror)[now.faces[boy]] == now.faces[boy]) {
                set |= 1 << mirror;
            }
        }
        return set;
    }

    public int alike() {
        search.clear();
        int twos = 0;
        for (int less = 0; less < school.mirrors; less++) {
            for (int greater = less + 1; greater < school.mirrors; greater++) {
                if (panes.firstUnlike(panes.row(less), panes.row(greater)) == NONE) {
                    if (twos == 0) {
                        search.put(less);
                        search.put(greater);
                    }
                    twos++;
                }
            }
        }
        return twos;
    }

    public int apart(int mirror, int other) {
        if (!hasMirror(mirror) || !hasMirror(other)) {
            return NONE;
        }
        return panes.firstUnlike(panes.row(mirror), panes.row(other));
    }

    public int fixed(int mirror, int what) {
        if (!hasMirror(mirror)) {
            return NONE;
        }
        int[] row = panes.row(mirror);
        int fullest = NONE;
        for (int face = 0; face < school.faceCount(); face++) {
            if (row[face] == face && (fullest == NONE || Integer.bitCount(face) > Integer.bitCount(fullest))) {
                fullest = face;
            }
        }
        return oneOf(what, fixedFaces(mirror), fullest);
    }

    public int lied(int mirror, int mark) {
        if (!hasMirror(mirror) || !hasMark(mark)) {
            return NONE;
        }
        int count = 0;
        for (int face = 0; face < school.faceCount(); face++) {
            if (lieNow(mirror, face) == mark) {
                count++;
            }
        }
        return count;
    }

    public int from(int mirror, int image, int what) {
        if (!hasMirror(mirror) || !hasFace(image)) {
            return NONE;
        }
        int[] row = panes.row(mirror);
        int count = 0;
        int least = NONE;
        for (int face = school.faceCount() - 1; face >= 0; face--) {
            if (row[face] == image) {
                count++;
                least = face;
            }
        }
        return oneOf(what, count, least);
    }

    public int twins(int boy, int other) {
        if (!hasBoy(boy) || !hasBoy(other) || boy == other) {
            return NONE;
        }
        int set = 0;
        for (int mirror = 0; mirror < school.mirrors; mirror++) {
            int[] row = panes.row(mirror);
            if (row[now.faces[boy]] == row[now.faces[other]]) {
                set |= 1 << mirror;
            }
        }
        return set;
    }

    public int crossed(int mirror, int other) {
        if (!hasMirror(mirror) || !hasMirror(other)) {
            return NONE;
        }
        int[] one = panes.row(mirror);
        int[] two = panes.row(other);
        int count = 0;
        for (int face = 0; face < school.faceCount(); face++) {
            if (one[two[face]] != two[one[face]]) {
                count++;
            }
        }
        return count;
    }

    public int undoes(int mirror) {
        if (!hasMirror(mirror)) {
            return NONE;
        }
        int set = 0;
        for (int other = 0; other < school.mirrors; other++) {
            if (panes.leadsBack(panes.row(mirror), panes.row(other))) {
                set |= 1 << other;
            }
        }
        return set;
    }

    public int longest(int mirror, int what) {
        if (!hasMirror(mirror)) {
            return NONE;
        }
        int[] row = panes.row(mirror);
        int best = 0;
        int least = NONE;
        for (int face = 0; face < school.faceCount(); face++) {
            panes.goRound(face, row, row, false);
            if (panes.fewerTurns > best) {
                best = panes.fewerTurns;
                least = face;
            }
        }
        return oneOf(what, best, least);
    }

    public int dull() {
        int all = (1 << school.mirrors) - 1;
        ahead.take(now);
        for (int night = 0; night <= MOST_NIGHTS; night++) {
            if (ahead.blindOnes(school.mirrors) == all) {
                return night;
            }
            ahead.passNight(school.mirrors);
        }
        return NONE;
    }

    public int changed(int box) {
        if (!isKept(box)) {
            return NONE;
        }
        int set = 0;
        for (int mirror = 0; mirror < school.mirrors; mirror++) {
            if (panes.firstUnlike(panes.row(mirror), panes.rowAt(boxes[box], mirror)) != NONE) {
                set |= 1 << mirror;
            }
        }
        return set;
    }

    public int whose(int mirror, int image) {
        if (!hasMirror(mirror) || !hasFace(image)) {
            return NONE;
        }
        int set = 0;
        for (int boy = 0; boy < school.boys; boy++) {
            if (panes.row(mirror)[now.faces[boy]] == image) {
                set |= 1 << boy;
            }
        }
        return set;
    }

    public int lies(int i) {
        return i >= 0 && i < search.count ? search.found[i] : NONE;
    }

    public int look(int mirror, int image) {
        if (!hasMirror(mirror) || !hasFace(image) || (image & ~school.sees[mirror]) != 0) {
            return NONE;
        }
        return looks.add(mirror, image);
    }

    public boolean untell(int look) {
        return looks.takeBack(look);
    }

    public int later(int by) {
        if (by < 0 || by > LONGEST_STEP || looks.time + by > LAST_TIME) {
            return NONE;
        }
        looks.time += by;
        return looks.time;
    }

    public int like(int what, int k) {
        likes.gather(k);
        return oneOf(what, likes.count, likes.least());
    }

    public int who(int k) {
        likes.gather(k);
        int set = 0;
        for (int boy = 0; boy < school.boys; boy++) {
            if (likes.has(now.faces[boy])) {
                set |= 1 << boy;
            }
        }
        return set;
    }

    public int spread(int what, int k) {
        likes.gather(k);
        if (likes.count == 0) {
            return NONE;
        }
        int fewest = WIDTH_LIMIT;
        int most = 0;
        for (int i = 0; i < likes.count; i++) {
            int marks = Integer.bitCount(likes.faces[i]);
            fewest = Math.min(fewest, marks);
            most = Math.max(most, marks);
        }
        return oneOf(what, fewest, most);
    }

    public int sure(int mark, int k) {
        likes.gather(k);
        if (!hasMark(mark) || likes.count == 0) {
            return NONE;
        }
        int having = likes.having(mark);
        if (having == likes.count) {
            return 1;
        }
        return having == 0 ? 0 : SOME;
    }

    public int odds(int mark, int part, int k) {
        likes.gather(k);
        if (!hasMark(mark) || likes.count == 0) {
            return NONE;
        }
        return inLowestTerms(likes.having(mark), likes.count, part);
    }

    public int ask(int what, int k) {
        likes.gather(k);
        if (likes.count == 0) {
            return NONE;
        }
        int best = NONE;
        int left = FACE_LIMIT + 1;
        for (int mirror = 0; mirror < school.mirrors; mirror++) {
            int most = likes.mostLeft(mirror);
            if (most < left) {
                best = mirror;
                left = most;
            }
        }
        return best == NONE ? NONE : oneOf(what, best, left);
    }

    public int mean(int mirror, int part, int k) {
        likes.gather(k);
        if (!hasMirror(mirror) || likes.count == 0) {
            return NONE;
        }
        return inLowestTerms(likes.leftInAll(mirror), likes.count, part);
    }

    public int course(int what, int k) {
        if (what != 0 && what != 1) {
            return NONE;
        }
        likes.gather(k);
        if (likes.count == 0) {
            return NONE;
        }
        if (likes.count > COURSE_LIMIT) {
            return TOO_MANY;
        }
        plan.make();
        return oneOf(what, plan.fewest, plan.firstMirror);
    }

    public int tell(int what, int k) {
        likes.gather(k);
        telling.compare();
        int set = telling.smallest();
        return set == NONE ? NONE : oneOf(what, Integer.bitCount(set), set);
    }

    public int glass(int what, int k) {
        likes.gather(k);
        telling.compare();
        int set = telling.cheapest();
        return set == NONE ? NONE : oneOf(what, school.priceOf(set), set);
    }

    public int image(int box) {
        if (box < 0 || box >= BOX_LIMIT) {
            return NONE;
        }
        boxes[box].take(now);
        kept[box] = true;
        return now.day;
    }

    public int back(int box) {
        if (!isKept(box)) {
            return NONE;
        }
        now.take(boxes[box]);
        acts.forget();
        panes.forget();
        return now.day;
    }

    public int about(int what) {
        switch (what) {
            case 0:
                return school.mirrors;
            case 1:
                return school.boys;
            case 2:
                return school.width;
            case 3:
                return now.day;
            case 4:
                return now.seed;
            case 5:
                return acts.done;
            case 6:
                return acts.undone;
            case 7:
                return looks.count;
            case 8:
                return looks.time;
            case 9:
                return tape.length;
            case 10:
                return school.units;
            case 11:
                return search.count;
            default:
                return NONE;
        }
    }

    private boolean hasBoy(int boy) {
        return boy >= 0 && boy < school.boys;
    }

    private boolean hasMirror(int mirror) {
        return mirror >= 0 && mirror < school.mirrors;
    }

    private boolean hasMark(int mark) {
        return mark >= 0 && mark < school.width;
    }

    private boolean hasFace(int face) {
        return face >= 0 && face < school.faceCount();
    }

    private boolean isKept(int box) {
        return box >= 0 && box < BOX_LIMIT && kept[box];
    }

    private int lieNow(int mirror, int face) {
        return school.lieOn(mirror, face, now.day, now.dust[mirror], now.cracks[mirror]);
    }

    private int liarsAbout(int mark, int face) {
        int count = 0;
        for (int mirror = 0; mirror < school.mirrors; mirror++) {
            if (lieNow(mirror, face) == mark) {
                count++;
            }
        }
        return count;
    }

    private int fixedFaces(int mirror) {
        int[] row = panes.row(mirror);
        int count = 0;
        for (int face = 0; face < school.faceCount(); face++) {
            if (row[face] == face) {
                count++;
            }
        }
        return count;
    }

    private static int oneOf(int what, int atZero, int atOne) {
        if (what == 0) {
            return atZero;
        }
        return what == 1 ? atOne : NONE;
    }

    private static int inLowestTerms(int upper, int lower, int part) {
        int divisor = commonDivisor(upper, lower);
        if (divisor == 0) {
            return NONE;
        }
        return oneOf(part, upper / divisor, lower / divisor);
    }

    private static int commonDivisor(int a, int b) {
        int greater = a;
        int rest = b;
        // Numbers below 2 to the 31st are through after some 45 steps.
        for (int step = 0; step < 64 && rest != 0; step++) {
            int next = greater % rest;
            greater = rest;
            rest = next;
        }
        return greater;
    }

    /** The bytes that were fed, cut into tokens: it holds the one that stands next. */
    private static final class Tape {
        // In the order of their kinds, MARKS to DUSTY, each with a blank behind it.
        private static final String OWN_WORDS =
            "marks boy has mirror lie sees to price dust draw or and not day many first dusty ";
        private static final int LONGEST_WORD = 8;
        private static final int LONGEST_NUMBER = 4;

        private final byte[] bytes = new byte[TAPE_LIMIT];
        int length;
        private int next;
        int kind;
        int place;
        int number;
        // Eight letters of five bits each: like words have like numbers.
        long word;

        void put(int number) {
            for (int shift = 24; shift >= 0 && length < TAPE_LIMIT; shift -= 8) {
                bytes[length] = (byte) (number >> shift);
                length++;
            }
        }

        void restart() {
            next = 0;
            advance();
        }

        void advance() {
            while (next < length && isBlank(byteAt(next))) {
                next++;
            }
            place = next;
            int sign = byteAt(next);
            if (sign == NONE) {
                kind = END;
            } else if (isLetter(sign)) {
                takeWord();
            } else if (isDigit(sign)) {
                takeNumber();
            } else {
                kind = isSign(sign) ? sign : BAD;
                next++;
            }
        }

        private void takeWord() {
            word = 0;
            while (next < length && isLetter(byteAt(next))) {
                word = word * 32 + (byteAt(next) - 'a' + 1);
                next++;
            }
            kind = next - place > LONGEST_WORD ? BAD : kindOfWord();
        }

        private void takeNumber() {
            number = 0;
            while (next < length && isDigit(byteAt(next))) {
                number = number * 10 + (byteAt(next) - '0');
                next++;
            }
            kind = next - place > LONGEST_NUMBER || isLetter(byteAt(next)) ? BAD : NUMBER;
        }

        private int byteAt(int at) {
            return at >= 0 && at < length ? bytes[at] & 255 : NONE;
        }

        private int kindOfWord() {
            int known = MARKS;
            long spelt = 0;
            for (int i = 0; i < OWN_WORDS.length(); i++) {
                char sign = OWN_WORDS.charAt(i);
                if (sign != ' ') {
                    spelt = spelt * 32 + (sign - 'a' + 1);
                } else if (spelt == word) {
                    return known;
                } else {
                    known++;
                    spelt = 0;
                }
            }
            return NAME;
        }

        private static boolean isBlank(int sign) {
            return sign == 32 || sign == 10;
        }

        private static boolean isLetter(int sign) {
            return sign >= 'a' && sign <= 'z';
        }

        private static boolean isDigit(int sign) {
            return sign >= '0' && sign <= '9';
        }

        private static boolean isSign(int sign) {
            return sign == ';' || sign == '(' || sign == ')' || sign == '<' || sign == '>' || sign == '='
                || sign == '+' || sign == '-' || sign == '*' || sign == '/' || sign == '%';
        }
    }

    /** Reads the tape into a school, or tells the first fault: each token is judged before the next is cut. */
    private static final class Reader {
        // Levels of a formula: 0 or, 1 and, 2 relations and not, 3 sums, 4 terms, 5 units.
        private static final int RELATIONS = 2;
        private static final int UNITS = 5;

        private final Tape tokens;
        private final long[] boyNames = new long[BOY_LIMIT];
        private final long[] mirrorNames = new long[MIRROR_LIMIT];
        private final School school;
        private boolean drawTold;
        private int unitsInOne;
        int fault;
        int place = NONE;

        Reader(Tape tape, School draft) {
            tokens = tape;
            school = draft;
        }

        boolean readsAll() {
            school.clear();
            drawTold = false;
            fault = 0;
            place = NONE;
            tokens.restart();
            // A line has one byte at least.
            for (int lines = 0; lines < TAPE_LIMIT && tokens.kind != END; lines++) {
                boolean fine;
                if (tokens.kind == MARKS && lines == 0) {
                    fine = readsMarks();
                } else if (tokens.kind == BOY && school.boys < BOY_LIMIT) {
                    fine = readsBoy();
                } else if (tokens.kind == MIRROR && school.mirrors < MIRROR_LIMIT) {
                    fine = readsMirror();
                } else if (tokens.kind == DRAW && !drawTold) {
                    fine = readsDraw();
                } else {
                    fine = refuseToken();
                }
                if (!fine) {
                    return false;
                }
            }
            return true;
        }

        private boolean readsMarks() {
            tokens.advance();
            int width = takeNumber(1, WIDTH_LIMIT);
            if (width == NONE) {
                return false;
            }
            school.width = width;
            return takes(';');
        }

        private boolean readsDraw() {
            tokens.advance();
            int draw = takeNumber(0, 999);
            if (draw == NONE) {
                return false;
            }
            school.draw = draw;
            drawTold = true;
            return takes(';');
        }

        private boolean readsBoy() {
            tokens.advance();
            if (!takesName(boyNames, school.boys)) {
                return false;
            }
            int face = 0;
            if (tokens.kind == HAS) {
                tokens.advance();
                face = takeMarks();
                if (face == NONE) {
                    return false;
                }
            }
            school.faces[school.boys] = face;
            school.boys++;
            return takes(';');
        }

        private int takeMarks() {
            int face = 0;
            // One more than there are marks has been told already, or can't be.
            for (int i = 0; i <= WIDTH_LIMIT && (i == 0 || tokens.kind == NUMBER); i++) {
                if (tokens.kind == NUMBER && tokens.number < school.width && (face >> tokens.number & 1) != 0) {
                    refuse(TOLD_ALREADY);
                    return NONE;
                }
                int mark = takeNumber(0, school.width - 1);
                if (mark == NONE) {
                    return NONE;
                }
                face |= 1 << mark;
            }
            return face;
        }

        private boolean readsMirror() {
            int mirror = school.mirrors;
            tokens.advance();
            if (!takesName(mirrorNames, mirror) || !takes(LIE)) {
                return false;
            }
            unitsInOne = 0;
            school.begin[mirror] = school.steps;
            if (!readsLevel(0, 0)) {
                return false;
            }
            school.begin[mirror + 1] = school.steps;
            if (!readsSight(mirror) || !readsPrice(mirror) || !readsDust(mirror)) {
                return false;
            }
            school.mirrors++;
            return takes(';');
        }

        private boolean readsSight(int mirror) {
            int least = 0;
            int last = school.width - 1;
            if (tokens.kind == SEES) {
                tokens.advance();
                least = takeNumber(0, last);
                if (least == NONE || !takes(TO)) {
                    return false;
                }
                last = takeNumber(least, last);
                if (last == NONE) {
                    return false;
                }
            }
            school.sees[mirror] = (1 << last + 1) - (1 << least);
            return true;
        }

        private boolean readsPrice(int mirror) {
            int price = 1;
            if (tokens.kind == PRICE) {
                tokens.advance();
                price = takeNumber(0, 99);
            }
            school.price[mirror] = price;
            return price != NONE;
        }

        private boolean readsDust(int mirror) {
            int dust = 0;
            if (tokens.kind == DUST) {
                tokens.advance();
                dust = takeNumber(0, MOST_DUST);
            }
            school.dust[mirror] = dust;
            return dust != NONE;
        }

        /** A formula's level is made of parts of the next one; depth: the ( e ) and the not that it stands within. */
        private boolean readsLevel(int level, int depth) {
            if (level >= UNITS) {
                return readsUnit(depth);
            }
            if (level == RELATIONS && tokens.kind == NOT) {
                if (depth >= NESTED_LIMIT) {
                    return refuse(MISPLACED);
                }
                tokens.advance();
                return readsLevel(RELATIONS, depth + 1) && adds(-NOT);
            }
            if (!readsLevel(level + 1, depth)) {
                return false;
            }
            int mostJoins = level == RELATIONS ? 1 : UNITS_IN_ONE;
            for (int i = 0; i < mostJoins && levelOf(tokens.kind) == level; i++) {
                int join = tokens.kind;
                tokens.advance();
                if (!readsLevel(level + 1, depth) || !adds(-join)) {
                    return false;
                }
            }
            return true;
        }

        private static int levelOf(int join) {
            switch (join) {
                case OR:
                    return 0;
                case AND:
                    return 1;
                case '<':
                case '>':
                case '=':
                    return RELATIONS;
                case '+':
                case '-':
                    return 3;
                case '*':
                case '/':
                case '%':
                    return 4;
                default:
                    return NONE;
            }
        }

        private boolean readsUnit(int depth) {
            int kind = tokens.kind;
            boolean isWord = kind == DAY || kind == MANY || kind == FIRST || kind == DUSTY;
            if (!isWord && kind != NUMBER && kind != '(') {
                return refuseToken();
            }
            if (unitsInOne >= UNITS_IN_ONE || school.units >= UNIT_LIMIT) {
                return refuse(MISPLACED);
            }
            unitsInOne++;
            school.units++;
            if (kind != '(') {
                int step = isWord ? -kind : tokens.number;
                tokens.advance();
                return adds(step);
            }
            if (depth >= NESTED_LIMIT) {
                return refuse(MISPLACED);
            }
            tokens.advance();
            return readsLevel(0, depth + 1) && takes(')');
        }

        private boolean adds(int step) {
            return school.adds(step) || refuse(MISPLACED);
        }

        private boolean takes(int kind) {
            if (tokens.kind != kind) {
                return refuseToken();
            }
            tokens.advance();
            return true;
        }

        private boolean takesName(long[] names, int count) {
            if (tokens.kind != NAME) {
                return refuseToken();
            }
            for (int i = 0; i < count && i < names.length; i++) {
                if (names[i] == tokens.word) {
                    return refuse(TOLD_ALREADY);
                }
            }
            if (count < names.length) {
                names[count] = tokens.word;
            }
            tokens.advance();
            return true;
        }

        private int takeNumber(int least, int most) {
            if (tokens.kind != NUMBER) {
                refuseToken();
                return NONE;
            }
            int number = tokens.number;
            if (number < least || number > most) {
                refuse(WRONG_NUMBER);
                return NONE;
            }
            tokens.advance();
            return number;
        }

        private boolean refuseToken() {
            return refuse(tokens.kind == BAD ? NO_TOKEN : MISPLACED);
        }

        private boolean refuse(int why) {
            fault = why;
            place = tokens.place;
            return false;
        }
    }

    /** What a text told, and what the mirrors' lies come to. */
    private static final class School {
        int width = USUAL_WIDTH;
        int boys;
        int mirrors;
        int units;
        int draw;
        final int[] faces = new int[BOY_LIMIT];
        final int[] sees = new int[MIRROR_LIMIT];
        final int[] price = new int[MIRROR_LIMIT];
        final int[] dust = new int[MIRROR_LIMIT];
        // A lie's steps, its operands ahead of their sign: a number, or a token's kind made negative.
        final int[] code = new int[STEP_LIMIT];
        final int[] begin = new int[MIRROR_LIMIT + 1];
        int steps;
        private final int[] stack = new int[UNITS_IN_ONE];

        void clear() {
            width = USUAL_WIDTH;
            boys = 0;
            mirrors = 0;
            units = 0;
            draw = 0;
            steps = 0;
        }

        void take(School other) {
            width = other.width;
            boys = other.boys;
            mirrors = other.mirrors;
            units = other.units;
            draw = other.draw;
            steps = other.steps;
            System.arraycopy(other.faces, 0, faces, 0, BOY_LIMIT);
            System.arraycopy(other.sees, 0, sees, 0, MIRROR_LIMIT);
            System.arraycopy(other.price, 0, price, 0, MIRROR_LIMIT);
            System.arraycopy(other.dust, 0, dust, 0, MIRROR_LIMIT);
            System.arraycopy(other.code, 0, code, 0, STEP_LIMIT);
            System.arraycopy(other.begin, 0, begin, 0, MIRROR_LIMIT + 1);
        }

        boolean adds(int step) {
            if (steps >= STEP_LIMIT) {
                return false;
            }
            code[steps] = step;
            steps++;
            return true;
        }

        int faceCount() {
            return 1 << width;
        }

        int firstOf(int face) {
            for (int mark = 0; mark < width; mark++) {
                if ((face >> mark & 1) != 0) {
                    return mark;
                }
            }
            return width;
        }

        int priceOf(int set) {
            int sum = 0;
            for (int mirror = 0; mirror < mirrors; mirror++) {
                if ((set >> mirror & 1) != 0) {
                    sum += price[mirror];
                }
            }
            return sum;
        }

        int lieOn(int mirror, int face, int day, int dusty, int crack) {
            if (dusty >= BLIND_DUST) {
                return NONE;
            }
            int mark = worth(mirror, day, Integer.bitCount(face), firstOf(face), dusty);
            if (mark < 0 || mark >= width) {
                return NONE;
            }
            return fartherOn(mark, crack);
        }

        /** The MARK so many farther on: behind the last one comes MARK 0 again. */
        int fartherOn(int mark, int by) {
            return width > 0 ? (mark + by) % width : 0;
        }

        int shown(int mirror, int face, int lie) {
            int changed = lie == NONE ? face : face ^ 1 << lie;
            return changed & sees[mirror];
        }

        private int worth(int mirror, int day, int many, int first, int dusty) {
            int depth = 0;
            for (int i = begin[mirror]; i < begin[mirror + 1]; i++) {
                int step = code[i];
                if (step == -NOT && depth >= 1) {
                    stack[depth - 1] = stack[depth - 1] == 0 ? 1 : 0;
                } else if (step >= 0 && depth < UNITS_IN_ONE) {
                    stack[depth] = step;
                    depth++;
                } else if (isUnit(step) && depth < UNITS_IN_ONE) {
                    stack[depth] = step == -DAY ? day : step == -MANY ? many : step == -FIRST ? first : dusty;
                    depth++;
                } else if (depth >= 2) {
                    depth--;
                    stack[depth - 1] = joined(-step, stack[depth - 1], stack[depth]);
                }
            }
            return stack[0];
        }

        private static boolean isUnit(int step) {
            return step == -DAY || step == -MANY || step == -FIRST || step == -DUSTY;
        }

        private static int joined(int join, int a, int b) {
            switch (join) {
                case '+':
                    return a + b;
                case '-':
                    return a - b;
                case '*':
                    return a * b;
                case '/':
                    return b == 0 ? 0 : a / b;
                case '%':
                    return b == 0 ? 0 : a % b;
                case '<':
                    return a < b ? 1 : 0;
                case '>':
                    return a > b ? 1 : 0;
                case '=':
                    return a == b ? 1 : 0;
                case AND:
                    return a != 0 && b != 0 ? 1 : 0;
                default:
                    return a != 0 || b != 0 ? 1 : 0;
            }
        }
    }

    /** All that ACTS change and a BOX keeps. */
    private static final class Hour {
        final int[] faces = new int[BOY_LIMIT];
        final int[] dust = new int[MIRROR_LIMIT];
        final int[] cracks = new int[MIRROR_LIMIT];
        int day;
        int seed;

        void start(School school) {
            System.arraycopy(school.faces, 0, faces, 0, BOY_LIMIT);
            System.arraycopy(school.dust, 0, dust, 0, MIRROR_LIMIT);
            Arrays.fill(cracks, 0);
            day = 0;
            seed = school.draw;
        }

        void take(Hour other) {
            System.arraycopy(other.faces, 0, faces, 0, BOY_LIMIT);
            System.arraycopy(other.dust, 0, dust, 0, MIRROR_LIMIT);
            System.arraycopy(other.cracks, 0, cracks, 0, MIRROR_LIMIT);
            day = other.day;
            seed = other.seed;
        }

        int dustedNext(int mirrors) {
            return mirrors > 0 ? nextSeed() % mirrors : NONE;
        }

        void passNight(int mirrors) {
            day++;
            seed = nextSeed();
            if (mirrors > 0) {
                int mirror = seed % mirrors;
                dust[mirror] = Math.min(MOST_DUST, dust[mirror] + seed / 100 % 3);
            }
        }

        int blindOnes(int mirrors) {
            int set = 0;
            for (int mirror = 0; mirror < mirrors; mirror++) {
                if (dust[mirror] >= BLIND_DUST) {
                    set |= 1 << mirror;
                }
            }
            return set;
        }

        private int nextSeed() {
            return (seed * 137 + 71) % 1000;
        }
    }

    /** The ACTS that can be undone, then those that can be done again. */
    private static final class Acts {
        private static final int SIZE = 5;

        private final School school;
        private final Hour now;
        // Of each: its kind, on which, by how much, the seed before, and what it changes as it was before.
        private final int[] log = new int[ACT_LIMIT * SIZE];
        int done;
        int undone;

        Acts(School school, Hour now) {
            this.school = school;
            this.now = now;
        }

        void forget() {
            done = 0;
            undone = 0;
        }

        void add(int kind, int which, int by) {
            if (done >= ACT_LIMIT) {
                System.arraycopy(log, SIZE, log, 0, (ACT_LIMIT - 1) * SIZE);
                done = ACT_LIMIT - 1;
            }
            int at = done * SIZE;
            log[at] = kind;
            log[at + 1] = which;
            log[at + 2] = by;
            log[at + 3] = now.seed;
            log[at + 4] = stands(kind, which);
            done++;
            undone = 0;
            perform(kind, which, by);
        }

        boolean takeBack() {
            if (done <= 0) {
                return false;
            }
            done--;
            undone++;
            int at = done * SIZE;
            if (log[at] == NIGHTFALL) {
                now.day--;
            }
            now.seed = log[at + 3];
            restore(log[at], log[at + 1], log[at + 4]);
            return true;
        }

        boolean doAgain() {
            if (undone <= 0 || done >= ACT_LIMIT) {
                return false;
            }
            int at = done * SIZE;
            perform(log[at], log[at + 1], log[at + 2]);
            done++;
            undone--;
            return true;
        }

        private int stands(int kind, int which) {
            if (kind == MARKING) {
                return now.faces[which];
            }
            if (kind == CRACKING) {
                return now.cracks[which];
            }
            return which == NONE ? 0 : now.dust[which];
        }

        private void restore(int kind, int which, int value) {
            if (kind == MARKING) {
                now.faces[which] = value;
            } else if (kind == CRACKING) {
                now.cracks[which] = value;
            } else if (which != NONE) {
                now.dust[which] = value;
            }
        }

        private void perform(int kind, int which, int by) {
            switch (kind) {
                case MARKING:
                    now.faces[which] ^= 1 << by;
                    break;
                case BREATHING:
                    now.dust[which] = Math.min(MOST_DUST, now.dust[which] + by);
                    break;
                case WIPING:
                    now.dust[which] = 0;
                    break;
                case CRACKING:
                    now.cracks[which] = school.fartherOn(now.cracks[which], by);
                    break;
                default:
                    now.passNight(school.mirrors);
                    break;
            }
        }
    }

    /** The images of all faces in all mirrors, made when they are first asked for and till something changes. */
    private static final class Panes {
        private static final int UNKNOWN = -2;

        private final School school;
        private final Hour now;
        private final int[][] images = new int[MIRROR_LIMIT][FACE_LIMIT];
        private final boolean[] fresh = new boolean[MIRROR_LIMIT];
        private final int[] past = new int[FACE_LIMIT];
        private final int[] metAt = new int[FACE_LIMIT];
        int firstTurn;
        int fewerTurns;
        // A lie hangs on how many marks there are and the first of them, no more: few sorts of faces.
        private final int[] lieOfSort = new int[(WIDTH_LIMIT + 1) * (WIDTH_LIMIT + 1)];

        Panes(School school, Hour now) {
            this.school = school;
            this.now = now;
        }

        void forget() {
            for (int mirror = 0; mirror < MIRROR_LIMIT; mirror++) {
                fresh[mirror] = false;
            }
        }

        int[] row(int mirror) {
            if (!fresh[mirror]) {
                fill(images[mirror], mirror, now);
                fresh[mirror] = true;
            }
            return images[mirror];
        }

        int[] rowAt(Hour hour, int mirror) {
            fill(past, mirror, hour);
            return past;
        }

        int firstUnlike(int[] one, int[] other) {
            for (int face = 0; face < school.faceCount(); face++) {
                if (one[face] != other[face]) {
                    return face;
                }
            }
            return NONE;
        }

        boolean leadsBack(int[] there, int[] back) {
            for (int face = 0; face < school.faceCount(); face++) {
                if (back[there[face]] != face) {
                    return false;
                }
            }
            return true;
        }

        /** How images of images come round: each turn goes through one, or through one and then the other. */
        void goRound(int face, int[] one, int[] other, boolean both) {
            Arrays.fill(metAt, NONE);
            int seen = face;
            for (int turns = 0; turns <= FACE_LIMIT; turns++) {
                if (metAt[seen] != NONE) {
                    firstTurn = turns;
                    fewerTurns = turns - metAt[seen];
                    return;
                }
                metAt[seen] = turns;
                seen = both ? other[one[seen]] : one[seen];
            }
        }

        private void fill(int[] row, int mirror, Hour hour) {
            Arrays.fill(lieOfSort, UNKNOWN);
            for (int face = 0; face < school.faceCount(); face++) {
                int sort = Integer.bitCount(face) * (WIDTH_LIMIT + 1) + school.firstOf(face);
                if (lieOfSort[sort] == UNKNOWN) {
                    lieOfSort[sort] = school.lieOn(mirror, face, hour.day, hour.dust[mirror], hour.cracks[mirror]);
                }
                row[face] = school.shown(mirror, face, lieOfSort[sort]);
            }
        }
    }

    /** Searches for rows of mirrors, none of them twice, and for mending ACTS; what one finds lies here for lies(). */
    private static final class Search {
        private static final int CHOICES = 2 + MOST_CRACK;

        private final School school;
        private final Hour now;
        private final Panes panes;
        private final int[] met = new int[FACE_LIMIT];
        final int[] found = new int[ROW_LIMIT];
        int count;

        Search(School school, Hour now, Panes panes) {
            this.school = school;
            this.now = now;
            this.panes = panes;
        }

        void clear() {
            count = 0;
        }

        void put(int number) {
            if (count < ROW_LIMIT) {
                found[count] = number;
                count++;
            }
        }

        int fewestMirrors(int face, int aim, int least) {
            for (int length = least; length <= ROW_LIMIT; length++) {
                if (finds(face, aim, length, 0)) {
                    return length;
                }
            }
            return NONE;
        }

        int howMany(int face, int aim, int length) {
            return endingAt(face, aim, length, 0);
        }

        int seenBy(int face) {
            Arrays.fill(met, 0);
            meet(face, ROW_LIMIT, 0);
            int sum = 0;
            for (int i = 0; i < FACE_LIMIT; i++) {
                sum += met[i];
            }
            return sum;
        }

        private boolean finds(int face, int aim, int left, int used) {
            if (left <= 0) {
                return face == aim;
            }
            for (int mirror = 0; mirror < school.mirrors; mirror++) {
                if ((used >> mirror & 1) == 0) {
                    put(mirror);
                    if (finds(panes.row(mirror)[face], aim, left - 1, used | 1 << mirror)) {
                        return true;
                    }
                    drop();
                }
            }
            return false;
        }

        private int endingAt(int face, int aim, int left, int used) {
            if (left <= 0) {
                return face == aim ? 1 : 0;
            }
            int sum = 0;
            for (int mirror = 0; mirror < school.mirrors; mirror++) {
                if ((used >> mirror & 1) == 0) {
                    sum += endingAt(panes.row(mirror)[face], aim, left - 1, used | 1 << mirror);
                }
            }
            return sum;
        }

        private void meet(int face, int left, int used) {
            met[face] = 1;
            if (left <= 0) {
                return;
            }
            for (int mirror = 0; mirror < school.mirrors; mirror++) {
                if ((used >> mirror & 1) == 0) {
                    meet(panes.row(mirror)[face], left - 1, used | 1 << mirror);
                }
            }
        }

        int fewestActs(int mirror, int face) {
            for (int acts = 0; acts <= MEND_LIMIT; acts++) {
                if (mends(mirror, face, now.dust[mirror], now.cracks[mirror], acts)) {
                    return acts;
                }
            }
            return NONE;
        }

        private boolean mends(int mirror, int face, int dust, int crack, int left) {
            if (left <= 0) {
                return school.shown(mirror, face, school.lieOn(mirror, face, now.day, dust, crack)) == face;
            }
            for (int choice = 0; choice < CHOICES; choice++) {
                put(choice < 2 ? choice : 10 + crackBy(choice));
                if (mends(mirror, face, dustBehind(choice, dust), school.fartherOn(crack, crackBy(choice)), left - 1)) {
                    return true;
                }
                drop();
            }
            return false;
        }

        private void drop() {
            if (count > 0) {
                count--;
            }
        }

        private static int dustBehind(int choice, int dust) {
            if (choice == 0) {
                return Math.min(MOST_DUST, dust + BREATH);
            }
            return choice == 1 ? 0 : dust;
        }

        private static int crackBy(int choice) {
            return choice < 2 ? 0 : choice - 1;
        }
    }

    /** What was told of somebody unknown, and when. */
    private static final class Looks {
        final int[] mirrors = new int[LOOK_LIMIT];
        final int[] images = new int[LOOK_LIMIT];
        private final int[] toldAt = new int[LOOK_LIMIT];
        private final int[] untoldAt = new int[LOOK_LIMIT];
        int count;
        int time;

        int add(int mirror, int image) {
            if (count >= LOOK_LIMIT) {
                return NONE;
            }
            mirrors[count] = mirror;
            images[count] = image;
            toldAt[count] = time;
            untoldAt[count] = NONE;
            count++;
            return count - 1;
        }

        boolean takeBack(int look) {
            if (look < 0 || look >= count || untoldAt[look] != NONE) {
                return false;
            }
            untoldAt[look] = time;
            return true;
        }

        boolean counts(int look, int k) {
            boolean untold = untoldAt[look] != NONE && untoldAt[look] <= k;
            return toldAt[look] <= k && !untold;
        }
    }

    /** The faces that fit all looks that count. */
    private static final class Likes {
        private final School school;
        private final Panes panes;
        private final Looks looks;
        private final int[] sizes = new int[FACE_LIMIT];
        final int[] faces = new int[FACE_LIMIT];
        int count;

        Likes(School school, Panes panes, Looks looks) {
            this.school = school;
            this.panes = panes;
            this.looks = looks;
        }

        void gather(int k) {
            count = school.faceCount();
            for (int face = 0; face < count; face++) {
                faces[face] = face;
            }
            for (int look = 0; look < looks.count; look++) {
                if (looks.counts(look, k)) {
                    keepShown(panes.row(looks.mirrors[look]), looks.images[look]);
                }
            }
        }

        int least() {
            return count > 0 ? faces[0] : NONE;
        }

        boolean has(int face) {
            for (int i = 0; i < count; i++) {
                if (faces[i] == face) {
                    return true;
                }
            }
            return false;
        }

        int having(int mark) {
            int sum = 0;
            for (int i = 0; i < count; i++) {
                sum += faces[i] >> mark & 1;
            }
            return sum;
        }

        int mostLeft(int mirror) {
            sortBy(mirror);
            int most = 0;
            for (int image = 0; image < FACE_LIMIT; image++) {
                most = Math.max(most, sizes[image]);
            }
            return most;
        }

        int leftInAll(int mirror) {
            sortBy(mirror);
            int sum = 0;
            for (int image = 0; image < FACE_LIMIT; image++) {
                sum += sizes[image] * sizes[image];
            }
            return sum;
        }

        private void sortBy(int mirror) {
            int[] row = panes.row(mirror);
            Arrays.fill(sizes, 0);
            for (int i = 0; i < count; i++) {
                sizes[row[faces[i]]]++;
            }
        }

        private void keepShown(int[] row, int image) {
            int left = 0;
            for (int i = 0; i < count; i++) {
                if (row[faces[i]] == image) {
                    faces[left] = faces[i];
                    left++;
                }
            }
            count = left;
        }
    }

    /** The fewest looks, each chosen by what was shown, for every set of up to ten faces. */
    private static final class Course {
        private static final int NEVER = 99;

        private final School school;
        private final Panes panes;
        private final Likes likes;
        private final int[][] sameAs = new int[MIRROR_LIMIT][COURSE_LIMIT];
        private final int[] looksFor = new int[1 << COURSE_LIMIT];
        int fewest;
        int firstMirror;

        Course(School school, Panes panes, Likes likes) {
            this.school = school;
            this.panes = panes;
            this.likes = likes;
        }

        /** For one to ten likes: whatever a look leaves is a smaller number as a set, so those are known first. */
        void make() {
            int count = Math.min(likes.count, COURSE_LIMIT);
            for (int mirror = 0; mirror < school.mirrors; mirror++) {
                noteSame(mirror, panes.row(mirror), count);
            }
            for (int set = 1; set < 1 << count; set++) {
                choose(set, count);
                looksFor[set] = fewest;
            }
            if (fewest >= NEVER) {
                fewest = NONE;
            }
        }

        private void noteSame(int mirror, int[] row, int count) {
            for (int i = 0; i < count; i++) {
                int set = 0;
                for (int j = 0; j < count; j++) {
                    if (row[likes.faces[i]] == row[likes.faces[j]]) {
                        set |= 1 << j;
                    }
                }
                sameAs[mirror][i] = set;
            }
        }

        private void choose(int set, int count) {
            firstMirror = NONE;
            fewest = Integer.bitCount(set) == 1 ? 0 : NEVER;
            for (int mirror = 0; mirror < school.mirrors && fewest > 0; mirror++) {
                int looks = 1 + mostBehind(mirror, set, count);
                if (looks < fewest) {
                    fewest = looks;
                    firstMirror = mirror;
                }
            }
        }

        private int mostBehind(int mirror, int set, int count) {
            int most = 0;
            int rest = set;
            for (int i = 0; i < count && most < NEVER; i++) {
                if ((rest >> i & 1) != 0) {
                    int left = sameAs[mirror][i] & set;
                    most = left == set ? NEVER : Math.max(most, looksFor[left]);
                    rest &= ~left;
                }
            }
            return most;
        }
    }

    /** Which sets of mirrors show no two of the likes alike. */
    private static final class Telling {
        private static final int SET_LIMIT = 1 << MIRROR_LIMIT;

        private final School school;
        private final Panes panes;
        private final Likes likes;
        private final boolean[] confuses = new boolean[SET_LIMIT];
        // Of each mirror and image the latest like with it, and of each like the one before it.
        private final int[][] latest = new int[MIRROR_LIMIT][FACE_LIMIT];
        private final int[][] before = new int[MIRROR_LIMIT][FACE_LIMIT];
        private final int[] sameIn = new int[FACE_LIMIT];

        Telling(School school, Panes panes, Likes likes) {
            this.school = school;
            this.panes = panes;
            this.likes = likes;
        }

        void compare() {
            for (int set = 0; set < SET_LIMIT; set++) {
                confuses[set] = false;
            }
            for (int mirror = 0; mirror < school.mirrors; mirror++) {
                Arrays.fill(latest[mirror], NONE);
            }
            Arrays.fill(sameIn, 0);
            for (int i = 0; i < likes.count; i++) {
                for (int mirror = 0; mirror < school.mirrors; mirror++) {
                    meet(mirror, panes.row(mirror), i);
                }
                for (int j = 0; j < i; j++) {
                    confuses[sameIn[j]] = true;
                    sameIn[j] = 0;
                }
            }
            spreadToParts();
        }

        int smallest() {
            int best = NONE;
            for (int set = 0; set < 1 << school.mirrors; set++) {
                if (!confuses[set] && (best == NONE || Integer.bitCount(set) < Integer.bitCount(best))) {
                    best = set;
                }
            }
            return best;
        }

        int cheapest() {
            int best = NONE;
            for (int set = 0; set < 1 << school.mirrors; set++) {
                if (!confuses[set] && (best == NONE || school.priceOf(set) < school.priceOf(best))) {
                    best = set;
                }
            }
            return best;
        }

        private void meet(int mirror, int[] row, int like) {
            int image = row[likes.faces[like]];
            int earlier = latest[mirror][image];
            for (int i = 0; i < like && earlier != NONE; i++) {
                sameIn[earlier] |= 1 << mirror;
                earlier = before[mirror][earlier];
            }
            before[mirror][like] = latest[mirror][image];
            latest[mirror][image] = like;
        }

        /** What all of a set show alike, all of any part of it show alike too. */
        private void spreadToParts() {
            for (int mirror = 0; mirror < school.mirrors; mirror++) {
                for (int set = 0; set < 1 << school.mirrors; set++) {
                    if (confuses[set | 1 << mirror]) {
                        confuses[set & ~(1 << mirror)] = true;
                    }
                }
            }
        }
    }
}
