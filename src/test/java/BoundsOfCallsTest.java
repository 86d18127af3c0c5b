/**
 * For each promise of ../shared/DOC.md: the bounds of its numbers from both sides, what a refused call answers, that it changes nothing
 * but STATUS, and which refusal comes first.
 */
public final class BoundsOfCallsTest {
    private static final int BAD = SidesChange.BAD;
    private static final int NO = SidesChange.NO;
    private static final int FULL = SidesChange.FULL;
    private static final int NONE = SidesChange.NONE;
    private static final int LEAST = Integer.MIN_VALUE;
    private static final int MOST = Integer.MAX_VALUE;
    private static final Twins twins = new Twins("BoundsOfCallsTest");

    public static void main(String[] args) {
        newObject();
        suit();
        bows();
        point();
        type();
        clear();
        says();
        objects();
        undo();
        undoIsDropped();
        now();
        of();
        about();
        moves();
        play();
        proof();
        ends();
        bowed();
        note();
        mark();
        forget();
        is();
        look();
        kinds();
        ask();
        settle();
        hearings();
        days();
        part();
        image();
        from();
        status();
        statusByReason();
        count();
        digest();
        twins.end();
    }

    private static void fresh(SidesChange x) {
        x.count(0);
    }

    /** Four POINTS, two of them SAID, one of those objected to; IMAGE 0 alone is kept. */
    private static void busy(SidesChange x) {
        x.suit(1, 3);
        x.bows(0, 3);
        x.bows(1, 2);
        x.point(1, 5, 2);
        x.point(2, 7, 3);
        x.point(5, 2, 0);
        x.point(0, 4, 1);
        x.hearings(3);
        Twins.write(x, "case 2 4;point 3 9 1;say 0;");
        x.says(1);
        x.image(0);
        x.objects();
        x.says(0);
        x.ends(4);
        x.note(0, 5, -3, 1, 3);
        x.mark(1, 4, 1, -6);
    }

    private static void sixPoints(SidesChange x) {
        busy(x);
        x.point(4, 9, 3);
        x.point(3, 1, 0);
        x.says(4);
    }

    private static void allSaid(SidesChange x) {
        sixPoints(x);
        x.says(5);
        x.says(3);
        x.says(2);
    }

    private static void fullText(SidesChange x) {
        busy(x);
        Twins.write(x, "case 5 1;point 2 8 2;" + " ".repeat(129));
    }

    private static void fullOfAll(SidesChange x) {
        sixPoints(x);
        for (int i = 1; i < 6; i++) {
            x.ends(i);
            x.note(i, i, i, i, i);
            x.mark(1, i, 0, i);
        }
        x.says(5);
    }

    private static void newObject() {
        twins.sentence("As told; no POINTS.");
        SidesChange x = new SidesChange();
        twins.due("count(0)", x.count(0), 0);
        twins.due("of(0, 0)", x.of(0, 0), BAD);
        twins.sentence("KIND (0 at first), with BOWS left (0 .. 3; 1 at first), each in a CHAIR; COUNSEL 0 is in CHAIR 0 at first");
        twins.due("about(0, 0)", x.about(0, 0), 0);
        twins.due("about(1, 0)", x.about(1, 0), 0);
        twins.due("about(0, 1)", x.about(0, 1), 1);
        twins.due("about(1, 1)", x.about(1, 1), 1);
        twins.due("about(0, 2)", x.about(0, 2), 0);
        twins.due("about(1, 2)", x.about(1, 2), 1);
        twins.due("now(1)", x.now(1), 0);
        twins.sentence("MERIT of CHAIR 0 (0 at first); TURNS (0 at first)");
        twins.due("now(0)", x.now(0), 0);
        twins.due("now(2)", x.now(2), 0);
        twins.due("now(3)", x.now(3), 0);
        twins.sentence("THE FRACTION is 0 by 1 at first");
        twins.due("part(0)", x.part(0), 0);
        twins.due("part(1)", x.part(1), 1);
        twins.sentence("two objects have nothing in common");
        twins.alike("a busy one beside it", new SidesChange(), besideBusy());
    }

    private static SidesChange besideBusy() {
        SidesChange x = new SidesChange();
        Twins.told(BoundsOfCallsTest::fullOfAll);
        return x;
    }

    private static void suit() {
        twins.sentence("suit: KINDS of both COUNSEL 0 .. 5. BAD.");
        twins.within(BoundsOfCallsTest::busy, "suit(n, 2)", (x, n) -> x.suit(n, 2), 0, 5, BAD);
        twins.within(BoundsOfCallsTest::busy, "suit(2, n)", (x, n) -> x.suit(2, n), 0, 5, BAD);
        twins.refuses(BoundsOfCallsTest::busy, "suit(-1, 6)", x -> x.suit(-1, 6), BAD, Twins.BAD);
        twins.refuses(BoundsOfCallsTest::fullOfAll, "suit(6, 6)", x -> x.suit(6, 6), BAD, Twins.BAD);
        twins.sentence("suit: how many POINTS there were");
        twins.takes(BoundsOfCallsTest::fresh, "suit(0, 0), no POINTS", x -> x.suit(0, 0), 0);
        twins.takes(BoundsOfCallsTest::busy, "suit(5, 5), four POINTS", x -> x.suit(5, 5), 4);
        twins.takes(BoundsOfCallsTest::sixPoints, "suit(0, 5), six POINTS", x -> x.suit(0, 5), 6);
        twins.sentence("suit: all else as at first (but for IMAGES, THE TEXT, THE FRACTION, STATUS)");
        SidesChange x = twins.takes(BoundsOfCallsTest::fullOfAll, "suit(4, 2)", y -> y.suit(4, 2), 6);
        SidesChange first = Twins.told(y -> {
            busy(y);
            y.suit(4, 2);
        });
        twins.alike("suit(4, 2)", first, x);
        SidesChange z = Twins.told(BoundsOfCallsTest::fullOfAll);
        z.suit(0, 0);
        z.forget(0);
        twins.due("six POINTS may come again", z.point(1, 1, 1), 0);
        twins.due("SAID of the first", z.of(0, 3), 0);
        twins.due("MAY", z.now(4), 0);
        twins.due("undo()", z.undo(), NO);
    }

    private static void bows() {
        twins.sentence("bows: BOWS left of a COUNSEL (0, 1), 0 .. 3. BAD.");
        twins.within(BoundsOfCallsTest::busy, "bows(n, 1)", (x, n) -> x.bows(n, 1), 0, 1, BAD);
        twins.within(BoundsOfCallsTest::busy, "bows(0, n)", (x, n) -> x.bows(0, n), 0, 3, BAD);
        twins.within(BoundsOfCallsTest::busy, "bows(1, n)", (x, n) -> x.bows(1, n), 0, 3, BAD);
        twins.refuses(BoundsOfCallsTest::busy, "bows(2, 4)", x -> x.bows(2, 4), BAD, Twins.BAD);
        twins.refuses(BoundsOfCallsTest::busy, "bows(-1, -1)", x -> x.bows(-1, -1), BAD, Twins.BAD);
        twins.sentence("bows: what they were");
        SidesChange x = new SidesChange();
        twins.due("bows(0, 0)", x.bows(0, 0), 1);
        twins.due("bows(0, 3)", x.bows(0, 3), 0);
        twins.due("bows(0, 2)", x.bows(0, 2), 3);
        twins.due("bows(0, 2)", x.bows(0, 2), 2);
        twins.due("bows(1, 3)", x.bows(1, 3), 1);
        twins.due("bows(1, 0)", x.bows(1, 0), 3);
        twins.due("about(0, 1)", x.about(0, 1), 2);
        twins.due("about(1, 1)", x.about(1, 1), 0);
        SidesChange y = Twins.told(BoundsOfCallsTest::busy);
        twins.due("bows(1, 0) behind a BOW", y.bows(1, 0), 1);
    }

    private static void point() {
        twins.sentence("point: KIND 0 .. 5, STRENGTH 1 .. 9, GROUNDS 0 .. 3. BAD.");
        twins.within(BoundsOfCallsTest::busy, "point(n, 5, 1)", (x, n) -> x.point(n, 5, 1), 0, 5, BAD);
        twins.within(BoundsOfCallsTest::busy, "point(1, n, 1)", (x, n) -> x.point(1, n, 1), 1, 9, BAD);
        twins.within(BoundsOfCallsTest::busy, "point(1, 5, n)", (x, n) -> x.point(1, 5, n), 0, 3, BAD);
        twins.refuses(BoundsOfCallsTest::fresh, "point(6, 0, 4)", x -> x.point(6, 0, 4), BAD, Twins.BAD);
        twins.sentence("point: POINTS 0 .. 5, as they come. FULL: 6");
        SidesChange x = new SidesChange();
        for (int p = 0; p <= 5; p++) {
            twins.due("point " + p, x.point(5 - p, 9 - p, 3 - p % 4), p);
            twins.due("count(0)", x.count(0), p + 1);
        }
        for (int p = 0; p <= 5; p++) {
            twins.due("KIND of " + p, x.of(p, 0), 5 - p);
            twins.due("STRENGTH of " + p, x.of(p, 1), 9 - p);
            twins.due("GROUNDS of " + p, x.of(p, 2), 3 - p % 4);
        }
        twins.refuses(BoundsOfCallsTest::sixPoints, "a 7th point", y -> y.point(0, 1, 0), FULL, Twins.FULL);
        twins.refuses(BoundsOfCallsTest::sixPoints, "a 7th point", y -> y.point(5, 9, 3), FULL, Twins.FULL);
        twins.refuses(BoundsOfCallsTest::allSaid, "a 7th point, all SAID", y -> y.point(5, 9, 3), FULL, Twins.FULL);
        twins.sentence("Refused, the first of: BAD, NO, FULL");
        int[][] wrongOnes = {{-1, 1, 0}, {6, 1, 0}, {0, 0, 0}, {0, 10, 0}, {0, 1, -1}, {0, 1, 4}};
        for (int[] one : wrongOnes) {
            twins.refuses(BoundsOfCallsTest::sixPoints, "a 7th point(" + one[0] + ", " + one[1] + ", " + one[2] + ")",
                    y -> y.point(one[0], one[1], one[2]), BAD, Twins.BAD);
        }
        twins.sentence("POINTS: SAID or not (not at first)");
        SidesChange z = Twins.told(BoundsOfCallsTest::allSaid);
        z.suit(0, 0);
        twins.due("point", z.point(0, 1, 0), 0);
        twins.due("of(0, 3)", z.of(0, 3), 0);
    }

    private static void type() {
        twins.sentence("type: A byte (0 .. 127). BAD");
        twins.within(BoundsOfCallsTest::busy, "type(n)", (x, n) -> x.type(n), 0, 127, BAD);
        twins.sentence("type: how many it has; THE TEXT of 150 bytes at most. FULL.");
        SidesChange x = new SidesChange();
        for (int n = 1; n <= 150; n++) {
            twins.due("type of byte " + n, x.type(n % 128), n);
        }
        twins.due("type of byte 151", x.type(0), FULL);
        twins.due("type of byte 151 again", x.type(127), FULL);
        twins.due("count(7)", x.count(7), 150);
        twins.refuses(BoundsOfCallsTest::fullText, "type(59) at 150", y -> y.type(59), FULL, Twins.FULL);
        twins.refuses(BoundsOfCallsTest::fullText, "type(0) at 150", y -> y.type(0), FULL, Twins.FULL);
        twins.sentence("Refused, the first of: BAD, NO, FULL");
        twins.refuses(BoundsOfCallsTest::fullText, "type(128) at 150", y -> y.type(128), BAD, Twins.BAD);
        twins.refuses(BoundsOfCallsTest::fullText, "type(-1) at 150", y -> y.type(-1), BAD, Twins.BAD);
    }

    private static void clear() {
        twins.sentence("clear: THE TEXT is empty: how many it had");
        twins.asks(BoundsOfCallsTest::fresh, "clear() of an empty one", x -> x.clear(), 0);
        twins.takes(BoundsOfCallsTest::busy, "clear()", x -> x.clear(), 27);
        SidesChange x = twins.takes(BoundsOfCallsTest::fullText, "clear() of a full one", y -> y.clear(), 150);
        twins.due("count(7)", x.count(7), 0);
        twins.due("clear() again", x.clear(), 0);
        twins.due("read()", x.read(), -10);
        twins.due("type", x.type(99), 1);
        twins.due("what was cleared does not come back", x.read(), -10);
        for (int n = 2; n <= 150; n++) {
            twins.due("type", x.type(32), n);
        }
        twins.due("type of byte 151", x.type(32), FULL);
    }

    private static void says() {
        twins.sentence("says: BAD: -1000 (a POINT that is not there); NO -1001: it was SAID");
        twins.refuses(BoundsOfCallsTest::fresh, "says(0), no POINTS", x -> x.says(0), -1000, Twins.BAD);
        int[] notThere = {-1, 4, 5, 6, LEAST, MOST};
        for (int p : notThere) {
            twins.refuses(BoundsOfCallsTest::busy, "says(" + p + ") of four", x -> x.says(p), -1000, Twins.BAD);
        }
        twins.refuses(BoundsOfCallsTest::sixPoints, "says(6) of six", x -> x.says(6), -1000, Twins.BAD);
        twins.refuses(BoundsOfCallsTest::allSaid, "says(6), all SAID", x -> x.says(6), -1000, Twins.BAD);
        for (int p = 0; p <= 1; p++) {
            int said = p;
            twins.refuses(BoundsOfCallsTest::busy, "says(" + p + "), SAID", x -> x.says(said), -1001, Twins.NO);
        }
        for (int p = 0; p <= 5; p++) {
            int said = p;
            twins.refuses(BoundsOfCallsTest::allSaid, "says(" + p + "), all SAID", x -> x.says(said), -1001, Twins.NO);
        }
        twins.sentence("says: MERIT of CHAIR 0 then (may be below 0)");
        SidesChange x = Twins.told(y -> {
            y.point(0, 1, 0);
            y.point(0, 2, 0);
            y.point(0, 1, 0);
            y.point(0, 3, 0);
        });
        twins.due("says(0)", x.says(0), 1);
        twins.due("says(1): as NONE, but MERIT", x.says(1), -1);
        twins.due("says(2)", x.says(2), 0);
        twins.due("says(3): as NO, but MERIT", x.says(3), -3);
        twins.due("status", x.status(0) + x.status(1) + x.status(2), 0);
        twins.due("undo()", x.undo(), 3);
        twins.due("says(3) again behind undo()", x.says(3), -3);
    }

    private static void objects() {
        twins.sentence("objects: NO: it can not be");
        twins.refuses(BoundsOfCallsTest::fresh, "objects(), no POINTS", x -> x.objects(), NO, Twins.NO);
        twins.refuses(x -> x.point(0, 5, 3), "objects(), none SAID", x -> x.objects(), NO, Twins.NO);
        twins.sentence("objects: once to each POINT");
        twins.refuses(x -> {
            x.bows(0, 3);
            x.bows(1, 3);
            x.point(0, 5, 3);
            x.says(0);
            x.objects();
        }, "objects() again", x -> x.objects(), NO, Twins.NO);
        twins.sentence("objects: if he has a BOW left");
        twins.refuses(x -> spoken(x, 3, 0, 3), "objects(), no BOW of COUNSEL 1", x -> x.objects(), NO, Twins.NO);
        twins.takes(x -> spoken(x, 0, 1, 3), "objects(), a BOW of COUNSEL 1", x -> x.objects(), 1);
        twins.refuses(x -> spokenTwice(x, 0, 3, 3), "objects(), no BOW of COUNSEL 0", x -> x.objects(), NO, Twins.NO);
        twins.takes(x -> spokenTwice(x, 1, 0, 3), "objects(), a BOW of COUNSEL 0", x -> x.objects(), 1);
        twins.sentence("objects: and the POINT has GROUNDS left");
        twins.refuses(x -> spoken(x, 3, 3, 0), "objects(), no GROUNDS", x -> x.objects(), NO, Twins.NO);
        twins.takes(x -> spoken(x, 3, 3, 1), "objects(), a GROUND", x -> x.objects(), 1);
        twins.refuses(x -> spokenTwice(x, 3, 3, 0), "objects(), no GROUNDS of the second", x -> x.objects(), NO, Twins.NO);
        twins.takes(x -> spokenTwice(x, 3, 3, 1), "objects(), a GROUND of the second", x -> x.objects(), 1);
        twins.sentence("objects: a BOW, a GROUND less");
        SidesChange x = twins.takes(y -> spoken(y, 2, 3, 3), "objects()", y -> y.objects(), 1);
        twins.due("BOWS of COUNSEL 0", x.about(0, 1), 2);
        twins.due("BOWS of COUNSEL 1", x.about(1, 1), 2);
        twins.due("GROUNDS of the POINT", x.of(0, 2), 2);
        twins.due("GROUNDS of another", x.of(1, 2), 1);
        SidesChange z = twins.takes(y -> spokenTwice(y, 2, 3, 3), "objects()", y -> y.objects(), 1);
        twins.due("BOWS of COUNSEL 0", z.about(0, 1), 1);
        twins.due("BOWS of COUNSEL 1", z.about(1, 1), 3);
        twins.due("GROUNDS of the POINT", z.of(1, 2), 2);
        twins.due("GROUNDS of the one before", z.of(0, 2), 3);
    }

    private static void spoken(SidesChange x, int bowsOfZero, int bowsOfOne, int grounds) {
        x.bows(0, bowsOfZero);
        x.bows(1, bowsOfOne);
        x.point(0, 5, grounds);
        x.point(0, 4, 1);
        x.says(0);
    }

    /** The second POINT has these GROUNDS; the one before it has 3. */
    private static void spokenTwice(SidesChange x, int bowsOfZero, int bowsOfOne, int grounds) {
        x.bows(0, bowsOfZero);
        x.bows(1, bowsOfOne);
        x.point(0, 5, 3);
        x.point(0, 4, grounds);
        x.says(0);
        x.says(1);
    }

    private static void undo() {
        twins.sentence("undo: NO: none may be");
        twins.refuses(BoundsOfCallsTest::fresh, "undo()", x -> x.undo(), NO, Twins.NO);
        twins.refuses(x -> {
            spoken(x, 1, 1, 1);
            x.undo();
        }, "undo() of one that was undone", x -> x.undo(), NO, Twins.NO);
        twins.sentence("undo: the TURN then");
        twins.takes(x -> spoken(x, 1, 1, 1), "undo() of the first SAYING", x -> x.undo(), 0);
        twins.takes(x -> {
            spoken(x, 1, 1, 1);
            x.objects();
        }, "undo() of an OBJECTING", x -> x.undo(), 1);
        twins.sentence("UNDO: as ahead of the last SAYING, OBJECTING");
        SidesChange with = Twins.told(BoundsOfCallsTest::busy);
        with.says(3);
        with.undo();
        twins.alike("says(3), undo()", Twins.told(BoundsOfCallsTest::busy), with);
        twins.sentence("UNDO: 8 at most");
        for (int moves = 7; moves <= 12; moves++) {
            undoOf(moves);
        }
    }

    /** SAYINGS with an OBJECTING behind each: 8 of them can be undone. */
    private static void undoOf(int moves) {
        SidesChange x = new SidesChange();
        x.bows(0, 3);
        x.bows(1, 3);
        for (int p = 0; p < 6; p++) {
            x.point(0, 9 - p, 1);
        }
        long[] digests = new long[moves + 1];
        for (int i = 0; i < moves; i++) {
            twins.due("count(6) behind " + i, x.count(6), Math.min(8, i));
            digests[i] = boardOf(x);
            if (i % 2 == 0) {
                x.says(i / 2);
            } else {
                x.objects();
            }
        }
        twins.due("count(6) behind " + moves, x.count(6), Math.min(8, moves));
        int last = Math.max(0, moves - 8);
        for (int i = moves - 1; i >= last; i--) {
            twins.due("undo() of move " + i + " of " + moves, x.undo(), (i + 1) / 2);
            twins.due("what is then", boardOf(x), digests[i]);
        }
        twins.due("one more undo() of " + moves, x.undo(), NO);
        twins.due("what is then", boardOf(x), digests[last]);
    }

    private static long boardOf(SidesChange x) {
        long h = 7;
        for (int what = 0; what <= 5; what++) {
            h = 31 * h + x.now(what);
        }
        h = 31 * h + x.about(0, 1);
        h = 31 * h + x.about(1, 1);
        for (int p = 0; p < 6; p++) {
            h = 31 * h + x.of(p, 2);
            h = 31 * h + x.of(p, 3);
        }
        return h;
    }

    private static void undoIsDropped() {
        twins.sentence("UNDO: behind a COUNSEL, BOWS told, a POINT that comes none may be");
        twins.refuses(x -> {
            busy(x);
            x.suit(1, 3);
        }, "undo() behind suit", x -> x.undo(), NO, Twins.NO);
        twins.refuses(x -> {
            busy(x);
            x.bows(0, 3);
        }, "undo() behind bows(0, as they were)", x -> x.undo(), NO, Twins.NO);
        twins.refuses(x -> {
            busy(x);
            x.bows(1, 1);
        }, "undo() behind bows(1, as they were)", x -> x.undo(), NO, Twins.NO);
        twins.refuses(x -> {
            busy(x);
            x.point(0, 1, 0);
        }, "undo() behind point", x -> x.undo(), NO, Twins.NO);
        twins.refuses(x -> {
            busy(x);
            x.read();
        }, "undo() behind read", x -> x.undo(), NO, Twins.NO);
        twins.sentence("UNDO: refused calls and other ones leave it as it is");
        SidesChange x = Twins.told(BoundsOfCallsTest::busy);
        x.suit(6, 0);
        x.bows(0, 4);
        x.point(6, 1, 0);
        x.ends(5);
        x.note(0, 1, 1, 1, 1);
        x.mark(0, 1, 1, 1);
        x.forget(0);
        x.hearings(5);
        x.days(5, 5);
        x.image(1);
        x.clear();
        x.type(99);
        x.read();
        twins.due("count(6)", x.count(6), 3);
        twins.due("undo()", x.undo(), 1);
        twins.due("undo()", x.undo(), 1);
        twins.due("undo()", x.undo(), 0);
        twins.due("undo()", x.undo(), NO);
        SidesChange y = Twins.told(BoundsOfCallsTest::sixPoints);
        y.point(0, 1, 0);
        twins.due("count(6) behind a 7th point", y.count(6), 1);
    }

    private static void now() {
        twins.sentence("now: 0 .. 5. BAD: -1000");
        twins.within(BoundsOfCallsTest::busy, "now(n)", (x, n) -> x.now(n), 0, 5, -1000);
        for (int what = 0; what <= 4; what++) {
            int asked = what;
            twins.asks(BoundsOfCallsTest::fresh, "now(" + what + ")", x -> x.now(asked), 0);
        }
        twins.sentence("who won (5; the CHAIR; NONE: not all are SAID)");
        twins.asks(x -> spoken(x, 1, 1, 1), "now(5), one of two SAID", x -> x.now(5), NONE);
        twins.asks(x -> spokenTwice(x, 1, 1, 1), "now(5), both SAID", x -> x.now(5), 0);
        twins.asks(x -> x.point(0, 1, 1), "now(5), none SAID", x -> x.now(5), NONE);
        twins.asks(BoundsOfCallsTest::fresh, "now(5), no POINT that is not SAID", x -> x.now(5), 1);
        twins.asks(x -> {
            spokenTwice(x, 1, 1, 1);
            x.point(0, 1, 1);
        }, "now(5), a further POINT", x -> x.now(5), NONE);
        twins.asks(x -> {
            spokenTwice(x, 1, 1, 1);
            x.undo();
        }, "now(5) behind undo()", x -> x.now(5), NONE);
    }

    private static void of() {
        twins.sentence("of: BAD");
        for (int what = 0; what <= 3; what++) {
            int asked = what;
            twins.within(BoundsOfCallsTest::busy, "of(n, " + what + ") of four", (x, n) -> x.of(n, asked), 0, 3, BAD);
            twins.within(BoundsOfCallsTest::sixPoints, "of(n, " + what + ") of six", (x, n) -> x.of(n, asked), 0, 5, BAD);
            twins.refuses(BoundsOfCallsTest::fresh, "of(0, " + what + ") of none", x -> x.of(0, asked), BAD, Twins.BAD);
        }
        twins.within(BoundsOfCallsTest::busy, "of(0, n)", (x, n) -> x.of(0, n), 0, 3, BAD);
        twins.within(BoundsOfCallsTest::busy, "of(3, n)", (x, n) -> x.of(3, n), 0, 3, BAD);
        twins.refuses(BoundsOfCallsTest::busy, "of(4, 4)", x -> x.of(4, 4), BAD, Twins.BAD);
        int[][] due = {{1, 5, 2, 1}, {2, 7, 2, 1}, {5, 2, 0, 0}, {0, 4, 1, 0}};
        for (int p = 0; p < due.length; p++) {
            for (int what = 0; what <= 3; what++) {
                int point = p;
                int asked = what;
                twins.asks(BoundsOfCallsTest::busy, "of(" + p + ", " + what + ")", x -> x.of(point, asked), due[p][what]);
            }
        }
    }

    private static void about() {
        twins.sentence("about: BAD");
        for (int what = 0; what <= 2; what++) {
            int asked = what;
            twins.within(BoundsOfCallsTest::busy, "about(n, " + what + ")", (x, n) -> x.about(n, asked), 0, 1, BAD);
        }
        twins.within(BoundsOfCallsTest::busy, "about(0, n)", (x, n) -> x.about(0, n), 0, 2, BAD);
        twins.within(BoundsOfCallsTest::busy, "about(1, n)", (x, n) -> x.about(1, n), 0, 2, BAD);
        twins.refuses(BoundsOfCallsTest::busy, "about(2, 3)", x -> x.about(2, 3), BAD, Twins.BAD);
        int[][] due = {{1, 3, 1}, {3, 1, 0}};
        for (int i = 0; i <= 1; i++) {
            for (int what = 0; what <= 2; what++) {
                int counsel = i;
                int asked = what;
                twins.asks(BoundsOfCallsTest::busy, "about(" + i + ", " + what + ")", x -> x.about(counsel, asked), due[i][what]);
            }
        }
    }

    private static void moves() {
        twins.sentence("moves: BAD: -1000; NO -1001: it was SAID");
        twins.refuses(BoundsOfCallsTest::fresh, "moves(0), no POINTS", x -> x.moves(0), -1000, Twins.BAD);
        int[] notThere = {-1, 4, 5, 6, LEAST, MOST};
        for (int p : notThere) {
            twins.refuses(BoundsOfCallsTest::busy, "moves(" + p + ") of four", x -> x.moves(p), -1000, Twins.BAD);
        }
        twins.refuses(BoundsOfCallsTest::sixPoints, "moves(6) of six", x -> x.moves(6), -1000, Twins.BAD);
        twins.refuses(BoundsOfCallsTest::busy, "moves(0), SAID", x -> x.moves(0), -1001, Twins.NO);
        twins.refuses(BoundsOfCallsTest::busy, "moves(1), SAID", x -> x.moves(1), -1001, Twins.NO);
        twins.refuses(BoundsOfCallsTest::allSaid, "moves(5), all SAID", x -> x.moves(5), -1001, Twins.NO);
        twins.sentence("moves: may be below 0");
        // COUNSEL 0, FIERCE, in TURN 2: a COUGH of 2, a PLAIN 4.
        twins.asks(BoundsOfCallsTest::busy, "moves(2)", x -> x.moves(2), 4);
        twins.asks(BoundsOfCallsTest::busy, "moves(3)", x -> x.moves(3), 6);
        twins.asks(x -> {
            x.suit(0, 3);
            x.point(0, 1, 1);
            x.point(0, 1, 1);
            x.says(0);
        }, "moves(1): as NO, but what counts", x -> x.moves(1), -3);
        twins.asks(x -> {
            x.suit(0, 3);
            x.point(0, 1, 1);
            x.point(5, 1, 1);
            x.says(0);
        }, "moves(1): as BAD, but what counts", x -> x.moves(1), -2);
    }

    private static void play() {
        twins.sentence("play: 0 .. 2. BAD: -1000");
        twins.within(BoundsOfCallsTest::busy, "play(n)", (x, n) -> x.play(n), 0, 2, -1000);
        twins.sentence("(Nothing is changed by these.)");
        twins.asks(BoundsOfCallsTest::allSaid, "play(2), all SAID", x -> x.play(2), NONE);
        twins.asks(BoundsOfCallsTest::fresh, "play(2), no POINTS", x -> x.play(2), NONE);
        twins.asks(BoundsOfCallsTest::fresh, "play(1), no POINTS", x -> x.play(1), NONE);
        twins.asks(BoundsOfCallsTest::fresh, "play(0), no POINTS", x -> x.play(0), 0);
        twins.sentence("play: whether to object (1; 1, 0; NONE: it can not be)");
        twins.asks(x -> spoken(x, 1, 0, 1), "play(1), no BOW", x -> x.play(1), NONE);
        twins.asks(x -> spoken(x, 1, 1, 0), "play(1), no GROUNDS", x -> x.play(1), NONE);
        twins.asks(x -> {
            x.point(0, 1, 1);
            x.says(0);
        }, "play(1): better", x -> x.play(1), 1);
        twins.asks(x -> {
            x.suit(2, 0);
            x.point(0, 1, 1);
            x.says(0);
        }, "play(1): alike", x -> x.play(1), 0);
        twins.asks(x -> {
            x.point(5, 1, 0);
            x.point(5, 1, 1);
            x.says(0);
            x.says(1);
        }, "play(1): worse", x -> x.play(1), 0);
        twins.sentence("play: how much (0; may be below 0)");
        twins.asks(x -> x.point(0, 1, 1), "play(0): as NONE, but MERIT", x -> x.play(0), -1);
        twins.asks(x -> x.point(0, 4, 1), "play(0): as FULL, but MERIT", x -> x.play(0), -4);
    }

    private static void proof() {
        twins.sentence("proof: CHAIR 0, 1. BAD");
        twins.within(BoundsOfCallsTest::busy, "proof(n)", (x, n) -> x.proof(n), 0, 1, BAD);
        twins.within(BoundsOfCallsTest::fresh, "proof(n)", (x, n) -> x.proof(n), 0, 1, BAD);
        twins.sentence("proof: NONE");
        twins.asks(BoundsOfCallsTest::fresh, "proof(0), no POINTS", x -> x.proof(0), NONE);
        twins.asks(BoundsOfCallsTest::fresh, "proof(1), no POINTS", x -> x.proof(1), NONE);
    }

    private static void ends() {
        twins.sentence("ends: x -99 .. 99. BAD; ENDS 0 .. 3, FULL: 4");
        twins.within(BoundsOfCallsTest::busy, "ends(n)", (x, n) -> x.ends(n), -99, 99, BAD);
        twins.within(BoundsOfCallsTest::fresh, "ends(n)", (x, n) -> x.ends(n), -99, 99, BAD);
        SidesChange x = new SidesChange();
        for (int n = 1; n <= 4; n++) {
            twins.due("ends " + n, x.ends(99 - n), n);
            twins.due("count(3)", x.count(3), n);
        }
        twins.due("a 5th", x.ends(0), FULL);
        twins.refuses(BoundsOfCallsTest::fullOfAll, "ends(-99), a 5th", y -> y.ends(-99), FULL, Twins.FULL);
        twins.refuses(BoundsOfCallsTest::fullOfAll, "ends(99), a 5th", y -> y.ends(99), FULL, Twins.FULL);
        twins.sentence("Refused, the first of: BAD, NO, FULL");
        twins.refuses(BoundsOfCallsTest::fullOfAll, "ends(100), a 5th", y -> y.ends(100), BAD, Twins.BAD);
        twins.refuses(BoundsOfCallsTest::fullOfAll, "ends(-100), a 5th", y -> y.ends(-100), BAD, Twins.BAD);
        x.forget(0);
        twins.due("behind forget(0)", x.ends(0), 1);
    }

    private static void bowed() {
        twins.sentence("bowed: 0 .. 2. BAD");
        twins.within(BoundsOfCallsTest::busy, "bowed(n)", (x, n) -> x.bowed(n), 0, 2, BAD);
        twins.sentence("bowed: in all (1; bits; NONE: no set)");
        twins.asks(x -> x.ends(0), "bowed(0), no POINTS, END 0: the empty set", x -> x.bowed(0), 1);
        twins.asks(x -> x.ends(0), "bowed(1), the empty set alone", x -> x.bowed(1), 0);
        twins.asks(x -> x.ends(0), "bowed(2), the empty set alone", x -> x.bowed(2), 0);
        twins.asks(x -> x.ends(1), "bowed(0), no set", x -> x.bowed(0), 0);
        twins.asks(x -> x.ends(1), "bowed(1), no set", x -> x.bowed(1), NONE);
        twins.asks(x -> x.ends(1), "bowed(2), no set", x -> x.bowed(2), 0);
    }

    private static void note() {
        twins.sentence("note: a POINT of STRENGTH g (1 .. 9) moved x (0 .. 40) by MERIT e (-99 .. 99) in TURN t (0 .. 9). BAD");
        twins.within(BoundsOfCallsTest::busy, "note(n, 1, 1, 1, 1) of four", (x, n) -> x.note(n, 1, 1, 1, 1), 0, 3, BAD);
        twins.within(BoundsOfCallsTest::busy, "note(1, n, 1, 1, 1)", (x, n) -> x.note(1, n, 1, 1, 1), 1, 9, BAD);
        twins.within(BoundsOfCallsTest::busy, "note(1, 1, n, 1, 1)", (x, n) -> x.note(1, 1, n, 1, 1), -99, 99, BAD);
        twins.within(BoundsOfCallsTest::busy, "note(1, 1, 1, n, 1)", (x, n) -> x.note(1, 1, 1, n, 1), 0, 9, BAD);
        twins.within(BoundsOfCallsTest::busy, "note(1, 1, 1, 1, n)", (x, n) -> x.note(1, 1, 1, 1, n), 0, 40, BAD);
        twins.refuses(BoundsOfCallsTest::fresh, "note(0, 1, 1, 1, 1), no POINTS", x -> x.note(0, 1, 1, 1, 1), BAD, Twins.BAD);
        twins.refuses(BoundsOfCallsTest::sixPoints, "note(6, 1, 1, 1, 1)", x -> x.note(6, 1, 1, 1, 1), BAD, Twins.BAD);
        twins.refuses(BoundsOfCallsTest::busy, "all wrong", x -> x.note(9, 10, 100, 10, 41), BAD, Twins.BAD);
        twins.sentence("note: NOTES 0 .. 5. FULL: 6");
        SidesChange x = Twins.told(y -> y.point(0, 1, 0));
        for (int n = 1; n <= 6; n++) {
            twins.due("note " + n, x.note(0, n, -n, n, n), n);
            twins.due("count(4)", x.count(4), n);
        }
        twins.due("a 7th", x.note(0, 1, 0, 0, 1), FULL);
        twins.refuses(BoundsOfCallsTest::fullOfAll, "note(0, 1, 0, 0, 0), a 7th", y -> y.note(0, 1, 0, 0, 0), FULL, Twins.FULL);
        twins.refuses(BoundsOfCallsTest::fullOfAll, "note(5, 9, 99, 9, 40), a 7th", y -> y.note(5, 9, 99, 9, 40), FULL, Twins.FULL);
        twins.sentence("Refused, the first of: BAD, NO, FULL");
        int[][] wrongOnes = {{-1, 1, 0, 0, 0}, {6, 1, 0, 0, 0}, {0, 0, 0, 0, 0}, {0, 10, 0, 0, 0}, {0, 1, -100, 0, 0},
            {0, 1, 100, 0, 0}, {0, 1, 0, -1, 0}, {0, 1, 0, 10, 0}, {0, 1, 0, 0, -1}, {0, 1, 0, 0, 41}};
        for (int[] one : wrongOnes) {
            twins.refuses(BoundsOfCallsTest::fullOfAll, "a 7th note(" + java.util.Arrays.toString(one) + ")",
                    y -> y.note(one[0], one[1], one[2], one[3], one[4]), BAD, Twins.BAD);
        }
        x.forget(1);
        twins.due("behind forget(1)", x.note(0, 1, 0, 0, 1), 1);
    }

    private static void mark() {
        twins.sentence("mark: of n (0 .. 40) x (-50 .. 50) counted for a COUNSEL in CHAIR c. BAD");
        twins.within(BoundsOfCallsTest::busy, "mark(n, 1, 1, 1)", (x, n) -> x.mark(n, 1, 1, 1), 0, 1, BAD);
        twins.within(BoundsOfCallsTest::busy, "mark(1, n, 1, 1)", (x, n) -> x.mark(1, n, 1, 1), 0, 40, BAD);
        twins.within(BoundsOfCallsTest::busy, "mark(1, 1, n, 1)", (x, n) -> x.mark(1, 1, n, 1), 0, 1, BAD);
        twins.within(BoundsOfCallsTest::busy, "mark(1, 1, 1, n)", (x, n) -> x.mark(1, 1, 1, n), -50, 50, BAD);
        twins.refuses(BoundsOfCallsTest::busy, "all wrong", x -> x.mark(2, 41, 2, 51), BAD, Twins.BAD);
        twins.sentence("mark: MARKS 0 .. 5. FULL: 6");
        SidesChange x = new SidesChange();
        for (int n = 1; n <= 6; n++) {
            twins.due("mark " + n, x.mark(n % 2, n, 0, -n), n);
            twins.due("count(5)", x.count(5), n);
        }
        twins.due("a 7th", x.mark(0, 1, 0, 1), FULL);
        twins.refuses(BoundsOfCallsTest::fullOfAll, "mark(0, 0, 0, -50), a 7th", y -> y.mark(0, 0, 0, -50), FULL, Twins.FULL);
        twins.refuses(BoundsOfCallsTest::fullOfAll, "mark(1, 40, 1, 50), a 7th", y -> y.mark(1, 40, 1, 50), FULL, Twins.FULL);
        twins.sentence("Refused, the first of: BAD, NO, FULL");
        int[][] wrongOnes = {{-1, 0, 0, 0}, {2, 0, 0, 0}, {0, -1, 0, 0}, {0, 41, 0, 0}, {0, 0, -1, 0}, {0, 0, 2, 0}, {0, 0, 0, -51},
            {0, 0, 0, 51}};
        for (int[] one : wrongOnes) {
            twins.refuses(BoundsOfCallsTest::fullOfAll, "a 7th mark(" + java.util.Arrays.toString(one) + ")",
                    y -> y.mark(one[0], one[1], one[2], one[3]), BAD, Twins.BAD);
        }
        x.forget(2);
        twins.due("behind forget(2)", x.mark(0, 1, 0, 1), 1);
    }

    private static void forget() {
        twins.sentence("forget: No ENDS (0), NOTES (1), MARKS (2): how many there were. BAD");
        twins.within(BoundsOfCallsTest::fullOfAll, "forget(n)", (x, n) -> x.forget(n), 0, 2, BAD);
        int[] most = {4, 6, 6};
        for (int what = 0; what <= 2; what++) {
            int asked = what;
            twins.asks(BoundsOfCallsTest::fresh, "forget(" + what + ") of none", x -> x.forget(asked), 0);
            twins.takes(BoundsOfCallsTest::busy, "forget(" + what + ") of one", x -> x.forget(asked), 1);
            SidesChange x = twins.takes(BoundsOfCallsTest::fullOfAll, "forget(" + what + ") of all", y -> y.forget(asked), most[what]);
            for (int other = 0; other <= 2; other++) {
                twins.due("count(" + (3 + other) + ")", x.count(3 + other), other == what ? 0 : most[other]);
            }
            twins.due("forget(" + what + ") again", x.forget(what), 0);
            twins.due("count(6): what may be undone stays", x.count(6), 2);
        }
    }

    private static void is() {
        twins.sentence("is: BAD");
        twins.within(BoundsOfCallsTest::busy, "is(n) of four", (x, n) -> x.is(n), 0, 3, BAD);
        twins.within(BoundsOfCallsTest::sixPoints, "is(n) of six", (x, n) -> x.is(n), 0, 5, BAD);
        twins.refuses(BoundsOfCallsTest::fresh, "is(0) of none", x -> x.is(0), BAD, Twins.BAD);
        twins.sentence("IS: KINDS (bits) by which all NOTES of one are so");
        twins.asks(x -> x.point(0, 1, 0), "is(0), no NOTES", x -> x.is(0), 63);
        twins.asks(x -> {
            x.point(0, 1, 0);
            x.note(0, 1, 0, 0, 40);
        }, "is(0), no KIND", x -> x.is(0), 0);
    }

    private static void look() {
        twins.sentence("look: NONE. BAD");
        twins.within(BoundsOfCallsTest::busy, "look(n) of four", (x, n) -> x.look(n), 0, 3, BAD);
        twins.within(BoundsOfCallsTest::sixPoints, "look(n) of six", (x, n) -> x.look(n), 0, 5, BAD);
        twins.refuses(BoundsOfCallsTest::fresh, "look(0) of none", x -> x.look(0), BAD, Twins.BAD);
        twins.asks(x -> {
            x.point(0, 1, 0);
            x.note(0, 1, 0, 0, 40);
        }, "look(0), no KIND", x -> x.look(0), NONE);
    }

    private static void kinds() {
        twins.sentence("kinds: BAD");
        twins.within(BoundsOfCallsTest::busy, "kinds(n)", (x, n) -> x.kinds(n), 0, 1, BAD);
        twins.sentence("WHAT: KINDS of COUNSEL (bits) by which all MARKS of one are so");
        twins.asks(BoundsOfCallsTest::fresh, "kinds(0), no MARKS", x -> x.kinds(0), 63);
        twins.asks(x -> x.mark(1, 0, 0, 50), "kinds(1), no KIND", x -> x.kinds(1), 0);
        twins.asks(x -> x.mark(1, 0, 0, 50), "kinds(0), no MARKS of his", x -> x.kinds(0), 63);
    }

    private static void ask() {
        twins.sentence("ask: NONE. BAD");
        twins.within(BoundsOfCallsTest::busy, "ask(n)", (x, n) -> x.ask(n), 0, 1, BAD);
        twins.asks(x -> x.mark(1, 0, 0, 50), "ask(1), no KIND", x -> x.ask(1), NONE);
        twins.asks(x -> x.mark(1, 0, 0, 50), "ask(0), no MARKS of his", x -> x.ask(0), 0);
    }

    private static void settle() {
        twins.sentence("settle: how many (k = NONE), the k-th. -5: not so many. BAD: -10: k below -1, too");
        int[] below = {-2, -3, -10, LEAST};
        for (int k : below) {
            twins.refuses(BoundsOfCallsTest::busy, "settle(" + k + ")", x -> x.settle(k), -10, Twins.BAD);
        }
        twins.asks(BoundsOfCallsTest::busy, "settle(-1)", x -> x.settle(-1), 1);
        twins.asks(BoundsOfCallsTest::busy, "settle(0)", x -> x.settle(0), 0);
        int[] beyond = {1, 2, 9, 10, 99, 100, 101, MOST};
        for (int k : beyond) {
            twins.asks(BoundsOfCallsTest::busy, "settle(" + k + ")", x -> x.settle(k), -5);
        }
        twins.asks(BoundsOfCallsTest::fresh, "settle(1), no POINTS", x -> x.settle(1), -5);
        twins.asks(BoundsOfCallsTest::allSaid, "settle(-1), all SAID", x -> x.settle(-1), 1);
    }

    private static void hearings() {
        twins.sentence("hearings: by c of 10 (0 .. 10). BAD");
        twins.within(BoundsOfCallsTest::busy, "hearings(n)", (x, n) -> x.hearings(n), 0, 10, BAD);
        twins.sentence("hearings: THE FRACTION alone is changed");
        SidesChange x = Twins.told(BoundsOfCallsTest::busy);
        SidesChange y = Twins.told(BoundsOfCallsTest::busy);
        twins.due("hearings(0)", x.hearings(0), 1);
        twins.due("hearings(10)", x.hearings(10), 1);
        twins.due("hearings(3)", x.hearings(3), 1);
        twins.due("hearings(3)", y.hearings(3), 1);
        twins.alike("hearings(3)", y, x);
    }

    private static void days() {
        twins.sentence("days: a SEED (0 .. 999999), n (0 .. 60). BAD");
        twins.within(BoundsOfCallsTest::busy, "days(n, 1)", (x, n) -> x.days(n, 1), 0, 999999, BAD);
        twins.within(BoundsOfCallsTest::busy, "days(1, n)", (x, n) -> x.days(1, n), 0, 60, BAD);
        twins.refuses(BoundsOfCallsTest::busy, "days(1000000, 61)", x -> x.days(1000000, 61), BAD, Twins.BAD);
        twins.asks(BoundsOfCallsTest::busy, "days(7, 0)", x -> x.days(7, 0), 0);
        twins.asks(BoundsOfCallsTest::fresh, "days(7, 60), no POINTS: CHAIR 1 wins", x -> x.days(7, 60), 0);
    }

    private static void part() {
        twins.sentence("part: THE FRACTION: above (0), below (1). BAD");
        twins.within(BoundsOfCallsTest::busy, "part(n)", (x, n) -> x.part(n), 0, 1, BAD);
        twins.within(BoundsOfCallsTest::fresh, "part(n)", (x, n) -> x.part(n), 0, 1, BAD);
        twins.asks(BoundsOfCallsTest::fresh, "part(0)", x -> x.part(0), 0);
        twins.asks(BoundsOfCallsTest::fresh, "part(1)", x -> x.part(1), 1);
    }

    private static void image() {
        twins.sentence("image: IMAGES 0, 1. BAD");
        twins.within(BoundsOfCallsTest::busy, "image(n)", (x, n) -> x.image(n), 0, 1, BAD);
        twins.takes(BoundsOfCallsTest::fresh, "image(0)", x -> x.image(0), 1);
        twins.takes(BoundsOfCallsTest::fullOfAll, "image(1)", x -> x.image(1), 1);
        twins.takes(BoundsOfCallsTest::busy, "image(0), one being kept", x -> x.image(0), 1);
    }

    private static void from() {
        twins.sentence("from: BAD; NO: none was kept");
        twins.refuses(BoundsOfCallsTest::busy, "from(1)", x -> x.from(1), NO, Twins.NO);
        twins.refuses(BoundsOfCallsTest::fresh, "from(0)", x -> x.from(0), NO, Twins.NO);
        twins.refuses(BoundsOfCallsTest::fresh, "from(1)", x -> x.from(1), NO, Twins.NO);
        twins.takes(BoundsOfCallsTest::busy, "from(0)", x -> x.from(0), 1);
        twins.sentence("Refused, the first of: BAD, NO, FULL");
        int[] notThere = {-1, 2, LEAST, MOST};
        for (int i : notThere) {
            twins.refuses(BoundsOfCallsTest::fresh, "from(" + i + "), none kept", x -> x.from(i), BAD, Twins.BAD);
            twins.refuses(BoundsOfCallsTest::busy, "from(" + i + "), one kept", x -> x.from(i), BAD, Twins.BAD);
        }
        twins.sentence("IMAGES keep all but them, THE TEXT, THE FRACTION and STATUS; what may be undone they keep");
        SidesChange x = Twins.told(BoundsOfCallsTest::fullOfAll);
        x.image(1);
        x.suit(4, 4);
        x.point(3, 3, 3);
        x.ends(-9);
        x.note(0, 9, 9, 9, 9);
        x.mark(0, 9, 1, 9);
        x.says(0);
        x.from(1);
        SidesChange y = Twins.told(BoundsOfCallsTest::fullOfAll);
        y.image(1);
        twins.alike("from(1)", y, x);
        SidesChange z = Twins.told(BoundsOfCallsTest::busy);
        z.hearings(0);
        long above = z.part(0);
        long below = z.part(1);
        z.clear();
        z.status(3);
        z.from(0);
        twins.due("part(0)", z.part(0), above);
        twins.due("part(1)", z.part(1), below);
        twins.due("count(7)", z.count(7), 0);
        twins.due("status(0)", z.status(0), 1);
        twins.due("from(1), an IMAGE of none in one", z.from(1), NO);
    }

    private static void status() {
        twins.sentence("status: -1: another what (counts as BAD)");
        int[] others = {-1, 3, 4, LEAST, MOST};
        for (int what : others) {
            twins.refuses(BoundsOfCallsTest::busy, "status(" + what + ")", x -> x.status(what), -1, Twins.BAD);
        }
        SidesChange x = new SidesChange();
        for (int what = 0; what <= 2; what++) {
            twins.due("status(" + what + ")", x.status(what), 0);
            twins.due("status(" + what + ") again", x.status(what), 0);
        }
        x.status(3);
        twins.due("status(0)", x.status(0), 1);
        twins.due("status(1)", x.status(1), 0);
        twins.due("status(2)", x.status(2), 0);
    }

    private static void statusByReason() {
        twins.sentence("STATUS: how many calls were refused as BAD, NO, FULL (each answer told so below is such a one)");
        SidesChange x = Twins.told(BoundsOfCallsTest::fullOfAll);
        int[] before = {x.status(0), x.status(1), x.status(2)};
        int[] bad = {x.suit(6, 0), x.bows(2, 0), x.point(6, 1, 0), x.type(128), x.of(6, 0), x.about(2, 0), x.proof(2), x.ends(100),
            x.bowed(3), x.note(6, 1, 0, 0, 0), x.mark(2, 0, 0, 0), x.forget(3), x.is(6), x.look(6), x.kinds(2), x.ask(2),
            x.hearings(11), x.days(0, 61), (int) x.part(2), x.image(2), x.from(2), x.count(8)};
        for (int i = 0; i < bad.length; i++) {
            twins.due("wrong call " + i, bad[i], BAD);
        }
        int[] badBeyond = {x.says(6), x.now(6), x.moves(6), x.play(3)};
        for (int i = 0; i < badBeyond.length; i++) {
            twins.due("wrong call " + i, badBeyond[i], -1000);
        }
        twins.due("settle(-2)", x.settle(-2), -10);
        twins.due("status(3)", x.status(3), -1);
        twins.due("says(0)", x.says(0), -1001);
        twins.due("moves(0)", x.moves(0), -1001);
        twins.due("objects()", x.objects(), NO);
        twins.due("from(1)", x.from(1), NO);
        twins.due("point", x.point(0, 1, 0), FULL);
        twins.due("ends", x.ends(0), FULL);
        twins.due("note", x.note(0, 1, 0, 0, 0), FULL);
        twins.due("mark", x.mark(0, 0, 0, 0), FULL);
        twins.due("status(0)", x.status(0), before[0] + bad.length + badBeyond.length + 2);
        twins.due("status(1)", x.status(1), before[1] + 4);
        twins.due("status(2)", x.status(2), before[2] + 4);
        twins.sentence("STATUS: no others are refused calls");
        x.settle(5);
        x.proof(1);
        x.play(1);
        x.now(5);
        x.clear();
        twins.due("read()", x.read(), -10);
        twins.due("status(0)", x.status(0), before[0] + bad.length + badBeyond.length + 2);
        twins.due("status(1)", x.status(1), before[1] + 4);
        twins.due("status(2)", x.status(2), before[2] + 4);
    }

    private static void count() {
        twins.sentence("count: 0 .. 7. BAD");
        twins.within(BoundsOfCallsTest::busy, "count(n)", (x, n) -> x.count(n), 0, 7, BAD);
        int[] ofBusy = {4, 2, 5, 1, 1, 1, 3, 27};
        int[] ofFull = {6, 4, 8, 4, 6, 6, 2, 27};
        for (int what = 0; what <= 7; what++) {
            int asked = what;
            twins.asks(BoundsOfCallsTest::fresh, "count(" + what + ") of a new one", x -> x.count(asked), 0);
            twins.asks(BoundsOfCallsTest::busy, "count(" + what + ") of a busy one", x -> x.count(asked), ofBusy[what]);
            twins.asks(BoundsOfCallsTest::fullOfAll, "count(" + what + ") of a full one", x -> x.count(asked), ofFull[what]);
        }
        twins.asks(BoundsOfCallsTest::fullText, "count(7) of a full TEXT", x -> x.count(7), 150);
    }

    private static void digest() {
        twins.sentence("digest: STATUS, IMAGES and what THE TEXT says are not in it");
        SidesChange x = new SidesChange();
        long first = x.digest();
        x.status(9);
        x.objects();
        x.image(0);
        twins.due("digest()", x.digest(), first);
        x.type(1);
        long one = x.digest();
        x.clear();
        twins.due("digest()", x.digest(), first);
        x.type(2);
        twins.due("digest()", x.digest(), one);
        twins.sentence("digest: of POINTS, ENDS, NOTES, MARKS those that there are");
        SidesChange y = Twins.told(BoundsOfCallsTest::fullOfAll);
        y.forget(0);
        y.forget(1);
        y.forget(2);
        y.suit(0, 0);
        y.clear();
        SidesChange z = new SidesChange();
        z.hearings(0);
        y.hearings(0);
        twins.due("digest() of one that is as at first", y.digest(), z.digest());
    }
}
