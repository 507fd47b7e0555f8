/** What the tests of boundary cases share. */
abstract class Edges {
    static final int NONE = MirrorLies.NONE;
    static final int TERMS = Sentences.TERMS;
    static final int LEAST = Integer.MIN_VALUE;
    static final int MOST = Integer.MAX_VALUE;
    static final String BOY = "boy a;";
    static final String LIE = "mirror a lie ";
    // Images of the faces 0 .. 7: p 0 0 0 2 0 4 4 6, q 1 3 0 7 6 1 2 7, r 2 3 0 1 2 3 0 1, s 4 5 6 7 0 1 2 3.
    static final String FOUR = "marks 3;boy a has 0;boy b has 0 1 2;boy c;mirror p lie first;"
        + "mirror q lie many;mirror r lie 1 sees 0 to 1 price 0;mirror s lie day + 2 price 5 dust 4;draw 10;";

    private final Sentences sentences;

    Edges(Sentences sentences) {
        this.sentences = sentences;
    }

    abstract void all();

    void says(int promise, String quote) {
        sentences.says(promise, quote);
    }

    void due(long got, long want) {
        sentences.due(got, want);
    }

    void due(boolean got, boolean want) {
        sentences.due(got ? 1 : 0, want ? 1 : 0);
    }

    /** Numbers that lie there, all of them. */
    void lie(MirrorLies x, int... want) {
        due(x.about(11), want.length);
        for (int i = 0; i < want.length; i++) {
            due(x.lies(i), want[i]);
        }
        due(x.lies(want.length), NONE);
    }

    static MirrorLies open(String text) {
        return Checks.open(text);
    }

    /** Mirrors a, b, .. with the same lie, each with what stands behind it. */
    static String mirrors(int count, String lie) {
        StringBuilder s = new StringBuilder();
        for (int i = 0; i < count; i++) {
            s.append("mirror ").append((char) ('a' + i)).append(" lie ").append(lie).append(';');
        }
        return s.toString();
    }

    /** Mirrors a, b, .. that lie about MARK 0, 1, .. whatever they see. */
    static String flips(int count) {
        StringBuilder s = new StringBuilder();
        for (int i = 0; i < count; i++) {
            s.append("mirror ").append((char) ('a' + i)).append(" lie ").append(i).append(';');
        }
        return s.toString();
    }

    /** All that can be asked of what is now, as a text: two like ones are two like states. */
    static String state(MirrorLies x) {
        StringBuilder s = new StringBuilder();
        for (int what = 0; what <= 11; what++) {
            s.append(x.about(what)).append(' ');
        }
        for (int boy = 0; boy < x.about(1); boy++) {
            s.append("boy ").append(x.face(boy)).append(' ');
        }
        for (int mirror = 0; mirror < x.about(0); mirror++) {
            s.append("mirror");
            for (int what = 0; what <= 3; what++) {
                s.append(' ').append(x.mirror(mirror, what));
            }
            for (int face = 0; face < 1 << x.about(2); face++) {
                s.append(' ').append(x.shows(mirror, face));
            }
        }
        for (int i = 0; i < x.about(11); i++) {
            s.append(" lies ").append(x.lies(i));
        }
        for (int box = 0; box < 3; box++) {
            s.append(" box ").append(x.changed(box));
        }
        for (int k = -1; k <= x.about(8); k++) {
            s.append(" like ").append(x.like(0, k)).append(' ').append(x.like(1, k));
        }
        return s.append(" fault ").append(x.fault(0)).append(' ').append(x.fault(1)).toString();
    }

    /** What a call that is refused leaves: all as it was. */
    void stays(MirrorLies x, String before) {
        due(state(x).equals(before), true);
    }
}
