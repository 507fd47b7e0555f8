import java.util.ArrayDeque;
import java.util.ArrayList;
import java.util.Arrays;
import java.util.Deque;
import java.util.HashMap;
import java.util.HashSet;
import java.util.LinkedHashMap;
import java.util.LinkedHashSet;
import java.util.List;
import java.util.Map;
import java.util.Set;
import java.util.TreeSet;

/** The document's promises once more, written as plainly as can be and without any care for speed. */
public final class PlainModel {
    static final int NONE = -1;
    static final Set<String> OWN = Set.of("marks", "boy", "has", "mirror", "lie", "sees", "to", "price", "dust",
        "draw", "or", "and", "not", "day", "many", "first", "dusty");

    interface Formula {
        int worth(int day, int many, int first, int dusty);
    }

    record Token(char kind, String text, int place) { }

    static final class Fault extends RuntimeException {
        private static final long serialVersionUID = 1L;
        final int why;
        final int where;

        Fault(int why, int where) {
            super(why + " at " + where, null, false, false);
            this.why = why;
            this.where = where;
        }
    }

    static final class Glass {
        Formula lie;
        int sees;
        int price = 1;
        int dust;
    }

    static final class Text {
        int width = 6;
        int draw;
        int units;
        final Map<String, Integer> boys = new LinkedHashMap<>();
        final Map<String, Glass> mirrors = new LinkedHashMap<>();
    }

    static final class Moment {
        int[] faces;
        int[] dust;
        int[] cracks;
        int day;
        int seed;

        Moment copy() {
            Moment m = new Moment();
            m.faces = faces.clone();
            m.dust = dust.clone();
            m.cracks = cracks.clone();
            m.day = day;
            m.seed = seed;
            return m;
        }
    }

    record Look(int mirror, int image, int told) { }

    private final ArrayList<Byte> tape = new ArrayList<>();
    private int fault;
    private int faultPlace = NONE;
    private Text told = new Text();
    private Glass[] glasses = new Glass[0];
    private Moment now = new Moment();
    private final Deque<Moment> undos = new ArrayDeque<>();
    private final Deque<Moment> redos = new ArrayDeque<>();
    private Moment[] boxes = new Moment[3];
    private List<Integer> lying = new ArrayList<>();
    private final List<Look> looks = new ArrayList<>();
    private final Map<Integer, Integer> untold = new HashMap<>();
    private int time;

    public PlainModel() {
        begin();
    }

    private void begin() {
        now = new Moment();
        now.faces = told.boys.values().stream().mapToInt(Integer::intValue).toArray();
        glasses = told.mirrors.values().toArray(new Glass[0]);
        now.dust = Arrays.stream(glasses).mapToInt(g -> g.dust).toArray();
        now.cracks = new int[glasses.length];
        now.seed = told.draw;
        undos.clear();
        redos.clear();
        looks.clear();
        untold.clear();
        lying = new ArrayList<>();
        boxes = new Moment[3];
    }

    // ---- the text

    static final class Parser {
        final String text;
        final List<Token> tokens = new ArrayList<>();
        int at;
        final Text out = new Text();
        int inOne;
        boolean drawn;

        Parser(String text) {
            this.text = text;
            cut();
        }

        // Kinds: w word, n number, ! no token, $ the end, or the sign.
        void cut() {
            int i = 0;
            while (i < text.length()) {
                char c = text.charAt(i);
                int j = i + 1;
                if (c == ' ' || c == '\n') {
                    i = j;
                    continue;
                }
                char kind = ";()<>=+-*/%".indexOf(c) >= 0 ? c : '!';
                if (c >= 'a' && c <= 'z') {
                    while (j < text.length() && text.charAt(j) >= 'a' && text.charAt(j) <= 'z') {
                        j++;
                    }
                    kind = j - i > 8 ? '!' : 'w';
                } else if (c >= '0' && c <= '9') {
                    while (j < text.length() && text.charAt(j) >= '0' && text.charAt(j) <= '9') {
                        j++;
                    }
                    boolean letter = j < text.length() && text.charAt(j) >= 'a' && text.charAt(j) <= 'z';
                    kind = j - i > 4 || letter ? '!' : 'n';
                }
                tokens.add(new Token(kind, text.substring(i, j), i));
                i = j;
            }
            tokens.add(new Token('$', "", text.length()));
        }

        Token t() {
            return tokens.get(at);
        }

        boolean is(String text) {
            return t().kind != '!' && t().kind != '$' && t().text.equals(text);
        }

        Fault wrong() {
            return new Fault(t().kind == '!' ? 1 : 2, t().place);
        }

        Fault fail(int why) {
            return new Fault(why, t().place);
        }

        void eat(String text) {
            if (!is(text)) {
                throw wrong();
            }
            at++;
        }

        int number(int least, int most) {
            if (t().kind != 'n') {
                throw wrong();
            }
            int n = Integer.parseInt(t().text);
            if (n < least || n > most) {
                throw fail(4);
            }
            at++;
            return n;
        }

        String name(Set<String> before) {
            if (t().kind != 'w' || OWN.contains(t().text)) {
                throw wrong();
            }
            if (before.contains(t().text)) {
                throw fail(3);
            }
            return tokens.get(at++).text;
        }

        Text all() {
            boolean any = false;
            while (t().kind != '$') {
                if (is("marks")) {
                    if (any) {
                        throw fail(2);
                    }
                    at++;
                    out.width = number(1, 8);
                } else if (is("draw")) {
                    if (drawn) {
                        throw fail(2);
                    }
                    drawn = true;
                    at++;
                    out.draw = number(0, 999);
                } else if (is("boy")) {
                    boy();
                } else if (is("mirror")) {
                    mirror();
                } else {
                    throw wrong();
                }
                eat(";");
                any = true;
            }
            return out;
        }

        void boy() {
            if (out.boys.size() == 4) {
                throw fail(2);
            }
            at++;
            String name = name(out.boys.keySet());
            int face = 0;
            if (is("has")) {
                at++;
                do {
                    int before = at;
                    int mark = number(0, out.width - 1);
                    if ((face & 1 << mark) != 0) {
                        at = before;
                        throw fail(3);
                    }
                    face |= 1 << mark;
                } while (t().kind == 'n');
            }
            out.boys.put(name, face);
        }

        void mirror() {
            if (out.mirrors.size() == 9) {
                throw fail(2);
            }
            at++;
            String name = name(out.mirrors.keySet());
            eat("lie");
            Glass g = new Glass();
            inOne = 0;
            g.lie = either(0);
            g.sees = (1 << out.width) - 1;
            if (is("sees")) {
                at++;
                int a = number(0, out.width - 1);
                eat("to");
                int b = number(a, out.width - 1);
                g.sees = 0;
                for (int i = a; i <= b; i++) {
                    g.sees |= 1 << i;
                }
            }
            if (is("price")) {
                at++;
                g.price = number(0, 99);
            }
            if (is("dust")) {
                at++;
                g.dust = number(0, 9);
            }
            out.mirrors.put(name, g);
        }

        Formula either(int depth) {
            Formula f = both(depth);
            while (is("or")) {
                at++;
                Formula a = f;
                Formula b = both(depth);
                f = (d, m, r, u) -> a.worth(d, m, r, u) != 0 | b.worth(d, m, r, u) != 0 ? 1 : 0;
            }
            return f;
        }

        Formula both(int depth) {
            Formula f = one(depth);
            while (is("and")) {
                at++;
                Formula a = f;
                Formula b = one(depth);
                f = (d, m, r, u) -> a.worth(d, m, r, u) != 0 & b.worth(d, m, r, u) != 0 ? 1 : 0;
            }
            return f;
        }

        Formula one(int depth) {
            if (is("not")) {
                if (depth == 7) {
                    throw fail(2);
                }
                at++;
                Formula a = one(depth + 1);
                return (d, m, r, u) -> a.worth(d, m, r, u) == 0 ? 1 : 0;
            }
            Formula a = sum(depth);
            char sign = t().kind;
            if (sign != '<' && sign != '>' && sign != '=') {
                return a;
            }
            at++;
            Formula b = sum(depth);
            return (d, m, r, u) -> {
                int c = Integer.compare(a.worth(d, m, r, u), b.worth(d, m, r, u));
                return (sign == '<' ? c < 0 : sign == '>' ? c > 0 : c == 0) ? 1 : 0;
            };
        }

        Formula sum(int depth) {
            Formula f = term(depth);
            while (is("+") || is("-")) {
                boolean plus = is("+");
                at++;
                Formula a = f;
                Formula b = term(depth);
                f = (d, m, r, u) -> plus ? a.worth(d, m, r, u) + b.worth(d, m, r, u)
                    : a.worth(d, m, r, u) - b.worth(d, m, r, u);
            }
            return f;
        }

        Formula term(int depth) {
            Formula f = unit(depth);
            while (is("*") || is("/") || is("%")) {
                char sign = t().kind;
                at++;
                Formula a = f;
                Formula b = unit(depth);
                f = (d, m, r, u) -> {
                    int x = a.worth(d, m, r, u);
                    int y = b.worth(d, m, r, u);
                    return sign == '*' ? x * y : y == 0 ? 0 : sign == '/' ? x / y : x % y;
                };
            }
            return f;
        }

        Formula unit(int depth) {
            boolean bracket = t().kind == '(';
            boolean word = is("day") || is("many") || is("first") || is("dusty");
            if (!bracket && !word && t().kind != 'n') {
                throw wrong();
            }
            if (inOne == 30 || out.units == 90 || bracket && depth == 7) {
                throw fail(2);
            }
            inOne++;
            out.units++;
            String text = tokens.get(at++).text;
            if (bracket) {
                Formula f = either(depth + 1);
                eat(")");
                return f;
            }
            if (!word) {
                int n = Integer.parseInt(text);
                return (d, m, r, u) -> n;
            }
            char c = text.equals("dusty") ? 'u' : text.charAt(0);
            return (d, m, r, u) -> c == 'd' ? d : c == 'm' ? m : c == 'f' ? r : u;
        }
    }

    public int feed(int a, int b, int c, int d, int e) {
        if (tape.size() + 20 > 1600) {
            return NONE;
        }
        for (int n : new int[] {a, b, c, d, e}) {
            tape.add((byte) (n >>> 24));
            tape.add((byte) (n >>> 16));
            tape.add((byte) (n >>> 8));
            tape.add((byte) n);
        }
        return tape.size();
    }

    public int end(int n) {
        if (n < 0 || n > tape.size()) {
            return NONE;
        }
        tape.subList(n, tape.size()).clear();
        return n;
    }

    public int school() {
        StringBuilder text = new StringBuilder();
        tape.forEach(b -> text.append((char) (b & 255)));
        try {
            told = new Parser(text.toString()).all();
        } catch (Fault f) {
            fault = f.why;
            faultPlace = f.where;
            return NONE;
        }
        fault = 0;
        faultPlace = NONE;
        tape.clear();
        begin();
        return glasses.length;
    }

    public int fault(int what) {
        return pick(what, fault, faultPlace);
    }

    // ---- what is there

    private static int pick(int what, int zero, int one) {
        return what == 0 ? zero : what == 1 ? one : NONE;
    }

    private boolean boy(int b) {
        return b >= 0 && b < now.faces.length;
    }

    private boolean mir(int m) {
        return m >= 0 && m < glasses.length;
    }

    private boolean fac(int f) {
        return f >= 0 && f < all();
    }

    private boolean mar(int m) {
        return m >= 0 && m < told.width;
    }

    private int all() {
        return 1 << told.width;
    }

    private int lieAt(int mirror, int face, int day, int dust, int crack) {
        int many = 0;
        int first = told.width;
        for (int i = told.width - 1; i >= 0; i--) {
            if ((face & 1 << i) != 0) {
                many++;
                first = i;
            }
        }
        int v = glasses[mirror].lie.worth(day, many, first, dust);
        return dust >= 5 || v < 0 || v >= told.width ? NONE : (v + crack) % told.width;
    }

    private int imageAt(int mirror, int face, int day, int dust, int crack) {
        int lie = lieAt(mirror, face, day, dust, crack);
        int seen = face;
        if (lie != NONE) {
            seen ^= 1 << lie;
        }
        return seen & glasses[mirror].sees;
    }

    private int im(int mirror, int face) {
        return imageAt(mirror, face, now.day, now.dust[mirror], now.cracks[mirror]);
    }

    public int face(int boy) {
        return boy(boy) ? now.faces[boy] : NONE;
    }

    public int mirror(int mirror, int what) {
        if (!mir(mirror) || what < 0 || what > 3) {
            return NONE;
        }
        return new int[] {glasses[mirror].sees, glasses[mirror].price, now.dust[mirror], now.cracks[mirror]}[what];
    }

    public int lie(int mirror, int face) {
        return mir(mirror) && fac(face)
            ? lieAt(mirror, face, now.day, now.dust[mirror], now.cracks[mirror]) : NONE;
    }

    public int shows(int mirror, int face) {
        return mir(mirror) && fac(face) ? im(mirror, face) : NONE;
    }

    // ---- acts

    private void keep() {
        undos.addLast(now.copy());
        if (undos.size() > 40) {
            undos.removeFirst();
        }
        redos.clear();
    }

    public int mark(int boy, int mark) {
        if (!boy(boy) || !mar(mark)) {
            return NONE;
        }
        keep();
        now.faces[boy] ^= 1 << mark;
        return now.faces[boy];
    }

    public int breathe(int mirror) {
        if (!mir(mirror)) {
            return NONE;
        }
        keep();
        now.dust[mirror] = Math.min(9, now.dust[mirror] + 3);
        return now.dust[mirror];
    }

    public int wipe(int mirror) {
        if (!mir(mirror)) {
            return NONE;
        }
        keep();
        int had = now.dust[mirror];
        now.dust[mirror] = 0;
        return had;
    }

    public int crack(int mirror, int by) {
        if (!mir(mirror) || by < 1 || by > 7) {
            return NONE;
        }
        keep();
        now.cracks[mirror] = (now.cracks[mirror] + by) % told.width;
        return now.cracks[mirror];
    }

    private static void dusk(Moment m) {
        m.day++;
        m.seed = (m.seed * 137 + 71) % 1000;
        if (m.dust.length > 0) {
            int i = m.seed % m.dust.length;
            m.dust[i] = Math.min(9, m.dust[i] + (m.seed / 100) % 3);
        }
    }

    public int night() {
        if (now.day == 9999) {
            return NONE;
        }
        keep();
        dusk(now);
        return now.day;
    }

    public boolean undo() {
        if (undos.isEmpty()) {
            return false;
        }
        redos.addLast(now.copy());
        now = undos.removeLast();
        return true;
    }

    public boolean redo() {
        if (redos.isEmpty()) {
            return false;
        }
        undos.addLast(now.copy());
        now = redos.removeLast();
        return true;
    }

    // ---- halls

    public int hall(int boy, int a, int b, int c, int d) {
        if (!boy(boy)) {
            return NONE;
        }
        int seen = now.faces[boy];
        for (int m : new int[] {a, b, c, d}) {
            if (m == NONE) {
                break;
            }
            if (!mir(m)) {
                return NONE;
            }
            seen = im(m, seen);
        }
        return seen;
    }

    private int[] circle(int face, int one, int other) {
        List<Integer> met = new ArrayList<>();
        int f = face;
        while (!met.contains(f)) {
            met.add(f);
            f = im(one, f);
            if (other != NONE) {
                f = im(other, f);
            }
        }
        return new int[] {met.size(), met.size() - met.indexOf(f)};
    }

    public int round(int boy, int mirror, int what) {
        if (!boy(boy) || !mir(mirror)) {
            return NONE;
        }
        int[] c = circle(now.faces[boy], mirror, NONE);
        return pick(what, c[0], c[1]);
    }

    public int facing(int boy, int mirror, int other, int what) {
        if (!boy(boy) || !mir(mirror) || !mir(other)) {
            return NONE;
        }
        int[] c = circle(now.faces[boy], mirror, other);
        return pick(what, c[0], c[1]);
    }

    private List<List<Integer>> rowsOf(int n) {
        List<List<Integer>> rows = new ArrayList<>();
        if (n == 0) {
            rows.add(new ArrayList<>());
            return rows;
        }
        for (List<Integer> shorter : rowsOf(n - 1)) {
            for (int m = 0; m < glasses.length; m++) {
                if (!shorter.contains(m)) {
                    List<Integer> longer = new ArrayList<>(shorter);
                    longer.add(m);
                    rows.add(longer);
                }
            }
        }
        return rows;
    }

    private int through(int face, List<Integer> row) {
        int f = face;
        for (int m : row) {
            f = im(m, f);
        }
        return f;
    }

    public int sights(int boy) {
        if (!boy(boy)) {
            return NONE;
        }
        Set<Integer> met = new HashSet<>();
        for (int n = 0; n <= 4; n++) {
            for (List<Integer> row : rowsOf(n)) {
                met.add(through(now.faces[boy], row));
            }
        }
        return met.size();
    }

    private int blindAt(Moment m) {
        int set = 0;
        for (int i = 0; i < m.dust.length; i++) {
            set |= m.dust[i] >= 5 ? 1 << i : 0;
        }
        return set;
    }

    public int blind(int n) {
        if (n < 0 || n > 200) {
            return NONE;
        }
        Moment m = now.copy();
        for (int i = 0; i < n; i++) {
            dusk(m);
        }
        return blindAt(m);
    }

    public int moled(int boy, int what) {
        if (!boy(boy)) {
            return NONE;
        }
        int[] liars = new int[told.width];
        for (int m = 0; m < glasses.length; m++) {
            int about = lie(m, now.faces[boy]);
            if (about != NONE) {
                liars[about]++;
            }
        }
        int best = 0;
        for (int i = 0; i < liars.length; i++) {
            best = liars[i] > liars[best] ? i : best;
        }
        return liars[best] == 0 ? NONE : pick(what, best, liars[best]);
    }

    private static final int[] MENDS = {0, 1, 11, 12, 13, 14, 15, 16, 17};

    private boolean mended(int mirror, int face, List<Integer> acts) {
        int dust = now.dust[mirror];
        int crack = now.cracks[mirror];
        for (int act : acts) {
            if (act == 0) {
                dust = Math.min(9, dust + 3);
            } else if (act == 1) {
                dust = 0;
            } else {
                crack = (crack + act - 10) % told.width;
            }
        }
        return imageAt(mirror, face, now.day, dust, crack) == face;
    }

    public int mend(int mirror, int boy) {
        lying = new ArrayList<>();
        if (!mir(mirror) || !boy(boy)) {
            return NONE;
        }
        List<List<Integer>> tries = new ArrayList<>();
        tries.add(List.of());
        for (int a : MENDS) {
            tries.add(List.of(a));
        }
        for (int a : MENDS) {
            for (int b : MENDS) {
                tries.add(List.of(a, b));
            }
        }
        for (List<Integer> acts : tries) {
            if (mended(mirror, now.faces[boy], acts)) {
                lying = acts;
                return acts.size();
            }
        }
        return NONE;
    }

    private int fewestRow(int boy, int aim, int least) {
        for (int n = least; n <= 4; n++) {
            for (List<Integer> row : rowsOf(n)) {
                if (through(now.faces[boy], row) == aim) {
                    lying = row;
                    return n;
                }
            }
        }
        return NONE;
    }

    public int hang(int boy) {
        lying = new ArrayList<>();
        return boy(boy) ? fewestRow(boy, now.faces[boy], 1) : NONE;
    }

    public int dream(int boy, int face) {
        lying = new ArrayList<>();
        return boy(boy) && fac(face) ? fewestRow(boy, face, 0) : NONE;
    }

    public int hangs(int boy, int n) {
        if (!boy(boy) || n < 1 || n > 4) {
            return NONE;
        }
        int f = now.faces[boy];
        return (int) rowsOf(n).stream().filter(row -> through(f, row) == f).count();
    }

    // ---- mirrors compared

    interface Holds {
        boolean of(int i);
    }

    private static int bits(int n, Holds holds) {
        int set = 0;
        for (int i = 0; i < n; i++) {
            if (holds.of(i)) {
                set |= 1 << i;
            }
        }
        return set;
    }

    private List<Integer> faces(Holds holds) {
        List<Integer> list = new ArrayList<>();
        for (int f = 0; f < all(); f++) {
            if (holds.of(f)) {
                list.add(f);
            }
        }
        return list;
    }

    private static int first(List<Integer> list) {
        return list.isEmpty() ? NONE : list.get(0);
    }

    public int trues() {
        return bits(glasses.length, m -> faces(f -> im(m, f) != f).isEmpty());
    }

    public int honest(int boy) {
        return boy(boy) ? bits(glasses.length, m -> im(m, now.faces[boy]) == now.faces[boy]) : NONE;
    }

    public int alike() {
        lying = new ArrayList<>();
        int count = 0;
        for (int a = 0; a < glasses.length; a++) {
            for (int b = a + 1; b < glasses.length; b++) {
                if (apart(a, b) == NONE) {
                    if (count == 0) {
                        lying = List.of(a, b);
                    }
                    count++;
                }
            }
        }
        return count;
    }

    public int apart(int mirror, int other) {
        return mir(mirror) && mir(other) ? first(faces(f -> im(mirror, f) != im(other, f))) : NONE;
    }

    public int fixed(int mirror, int what) {
        if (!mir(mirror)) {
            return NONE;
        }
        List<Integer> same = faces(f -> im(mirror, f) == f);
        int best = NONE;
        for (int marks = 0; marks <= told.width; marks++) {
            int n = marks;
            int found = first(same.stream().filter(f -> Integer.bitCount(f) == n).toList());
            best = found == NONE ? best : found;
        }
        return pick(what, same.size(), best);
    }

    public int lied(int mirror, int mark) {
        return mir(mirror) && mar(mark) ? faces(f -> lie(mirror, f) == mark).size() : NONE;
    }

    public int from(int mirror, int image, int what) {
        if (!mir(mirror) || !fac(image)) {
            return NONE;
        }
        List<Integer> list = faces(f -> im(mirror, f) == image);
        return pick(what, list.size(), first(list));
    }

    public int twins(int boy, int other) {
        return boy(boy) && boy(other) && boy != other
            ? bits(glasses.length, m -> im(m, now.faces[boy]) == im(m, now.faces[other])) : NONE;
    }

    public int crossed(int mirror, int other) {
        return mir(mirror) && mir(other)
            ? faces(f -> im(mirror, im(other, f)) != im(other, im(mirror, f))).size() : NONE;
    }

    public int undoes(int mirror) {
        return mir(mirror) ? bits(glasses.length, o -> faces(f -> im(o, im(mirror, f)) != f).isEmpty()) : NONE;
    }

    public int longest(int mirror, int what) {
        if (!mir(mirror)) {
            return NONE;
        }
        int best = 0;
        int least = NONE;
        for (int f = 0; f < all(); f++) {
            int length = circle(f, mirror, NONE)[1];
            if (length > best) {
                best = length;
                least = f;
            }
        }
        return pick(what, best, least);
    }

    public int dull() {
        Moment m = now.copy();
        for (int n = 0; n <= 200; n++) {
            if (Arrays.stream(m.dust).allMatch(d -> d >= 5)) {
                return n;
            }
            dusk(m);
        }
        return NONE;
    }

    public int changed(int box) {
        if (box < 0 || box > 2 || boxes[box] == null) {
            return NONE;
        }
        Moment b = boxes[box];
        return bits(glasses.length,
            m -> !faces(f -> im(m, f) != imageAt(m, f, b.day, b.dust[m], b.cracks[m])).isEmpty());
    }

    public int whose(int mirror, int image) {
        return mir(mirror) && fac(image) ? bits(now.faces.length, b -> im(mirror, now.faces[b]) == image) : NONE;
    }

    public int lies(int i) {
        return i >= 0 && i < lying.size() ? lying.get(i) : NONE;
    }

    // ---- looks

    public int look(int mirror, int image) {
        if (!mir(mirror) || !fac(image) || (image | glasses[mirror].sees) != glasses[mirror].sees
            || looks.size() == 30) {
            return NONE;
        }
        looks.add(new Look(mirror, image, time));
        return looks.size() - 1;
    }

    public boolean untell(int look) {
        if (look < 0 || look >= looks.size() || untold.containsKey(look)) {
            return false;
        }
        untold.put(look, time);
        return true;
    }

    public int later(int by) {
        if (by < 0 || by > 1000 || time + by > 100000) {
            return NONE;
        }
        return time += by;
    }

    private List<Integer> these(int k) {
        return faces(f -> {
            for (int i = 0; i < looks.size(); i++) {
                Look l = looks.get(i);
                boolean counts = l.told <= k && (!untold.containsKey(i) || untold.get(i) > k);
                if (counts && im(l.mirror, f) != l.image) {
                    return false;
                }
            }
            return true;
        });
    }

    public int like(int what, int k) {
        return pick(what, these(k).size(), first(these(k)));
    }

    public int who(int k) {
        return bits(now.faces.length, b -> these(k).contains(now.faces[b]));
    }

    public int spread(int what, int k) {
        TreeSet<Integer> counts = new TreeSet<>();
        these(k).forEach(f -> counts.add(Integer.bitCount(f)));
        return counts.isEmpty() ? NONE : pick(what, counts.first(), counts.last());
    }

    private int having(int mark, int k) {
        return (int) these(k).stream().filter(f -> (f & 1 << mark) != 0).count();
    }

    public int sure(int mark, int k) {
        int n = these(k).size();
        if (!mar(mark) || n == 0) {
            return NONE;
        }
        return having(mark, k) == n ? 1 : having(mark, k) == 0 ? 0 : -2;
    }

    private static int lowest(int upper, int lower, int part) {
        for (int d = lower; d > 1; d--) {
            if (upper % d == 0 && lower % d == 0) {
                return pick(part, upper / d, lower / d);
            }
        }
        return pick(part, upper, lower);
    }

    public int odds(int mark, int part, int k) {
        int n = these(k).size();
        return !mar(mark) || n == 0 ? NONE : lowest(having(mark, k), n, part);
    }

    private Map<Integer, List<Integer>> split(List<Integer> set, int mirror) {
        Map<Integer, List<Integer>> parts = new LinkedHashMap<>();
        set.forEach(f -> parts.computeIfAbsent(im(mirror, f), i -> new ArrayList<>()).add(f));
        return parts;
    }

    public int ask(int what, int k) {
        List<Integer> set = these(k);
        int best = NONE;
        int left = Integer.MAX_VALUE;
        for (int m = 0; m < glasses.length && !set.isEmpty(); m++) {
            int most = split(set, m).values().stream().mapToInt(List::size).max().getAsInt();
            if (most < left) {
                left = most;
                best = m;
            }
        }
        return best == NONE ? NONE : pick(what, best, left);
    }

    public int mean(int mirror, int part, int k) {
        List<Integer> set = these(k);
        if (!mir(mirror) || set.isEmpty()) {
            return NONE;
        }
        int sum = 0;
        for (int f : set) {
            for (int g : set) {
                sum += im(mirror, f) == im(mirror, g) ? 1 : 0;
            }
        }
        return lowest(sum, set.size(), part);
    }

    /** How many looks, and the first mirror; null if it can't be known. */
    private int[] courseOf(List<Integer> set, Map<List<Integer>, int[]> known) {
        if (set.size() == 1) {
            return new int[] {0, NONE};
        }
        if (known.containsKey(set)) {
            return known.get(set);
        }
        int[] best = null;
        for (int m = 0; m < glasses.length; m++) {
            Map<Integer, List<Integer>> parts = split(set, m);
            int worst = parts.size() == 1 ? NONE : 0;
            for (List<Integer> part : parts.values()) {
                int[] rest = worst == NONE ? null : courseOf(part, known);
                worst = rest == null ? NONE : Math.max(worst, rest[0]);
            }
            if (worst != NONE && (best == null || worst + 1 < best[0])) {
                best = new int[] {worst + 1, m};
            }
        }
        known.put(set, best);
        return best;
    }

    public int course(int what, int k) {
        List<Integer> set = these(k);
        if (what < 0 || what > 1 || set.isEmpty()) {
            return NONE;
        }
        if (set.size() > 10) {
            return -2;
        }
        int[] best = courseOf(set, new HashMap<>());
        return best == null ? NONE : best[what];
    }

    private boolean tells(int mirrors, List<Integer> set) {
        Set<String> shown = new LinkedHashSet<>();
        for (int f : set) {
            StringBuilder all = new StringBuilder();
            for (int m = 0; m < glasses.length; m++) {
                if ((mirrors & 1 << m) != 0) {
                    all.append(im(m, f)).append(' ');
                }
            }
            if (!shown.add(all.toString())) {
                return false;
            }
        }
        return true;
    }

    private int price(int mirrors) {
        int sum = 0;
        for (int m = 0; m < glasses.length; m++) {
            sum += (mirrors & 1 << m) != 0 ? glasses[m].price : 0;
        }
        return sum;
    }

    public int tell(int what, int k) {
        List<Integer> set = these(k);
        for (int n = 0; n <= glasses.length; n++) {
            for (int mirrors = 0; mirrors < 1 << glasses.length; mirrors++) {
                if (Integer.bitCount(mirrors) == n && tells(mirrors, set)) {
                    return pick(what, n, mirrors);
                }
            }
        }
        return NONE;
    }

    public int glass(int what, int k) {
        List<Integer> set = these(k);
        int best = NONE;
        for (int mirrors = 0; mirrors < 1 << glasses.length; mirrors++) {
            if ((best == NONE || price(mirrors) < price(best)) && tells(mirrors, set)) {
                best = mirrors;
            }
        }
        return best == NONE ? NONE : pick(what, price(best), best);
    }

    // ---- boxes

    public int image(int box) {
        if (box < 0 || box > 2) {
            return NONE;
        }
        boxes[box] = now.copy();
        return now.day;
    }

    public int back(int box) {
        if (box < 0 || box > 2 || boxes[box] == null) {
            return NONE;
        }
        now = boxes[box].copy();
        undos.clear();
        redos.clear();
        return now.day;
    }

    public int about(int what) {
        int[] all = {glasses.length, now.faces.length, told.width, now.day, now.seed, undos.size(), redos.size(),
            looks.size(), time, tape.size(), told.units, lying.size()};
        return what >= 0 && what < all.length ? all[what] : NONE;
    }
}
