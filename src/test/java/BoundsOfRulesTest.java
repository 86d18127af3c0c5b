/** The "Terms" of ../shared/DOC.md, sentence by sentence: each boundary case from both sides, by answers worked out by hand. */
public final class BoundsOfRulesTest {
    private static final int NONE = SidesChange.NONE;
    private static final int NO = SidesChange.NO;
    private static final Twins twins = new Twins("BoundsOfRulesTest");

    public static void main(String[] args) {
        turns();
        plainAndHearsay();
        proofKind();
        rumour();
        oath();
        cough();
        counselOfNothing();
        counselByChair();
        technical();
        brother();
        mild();
        meritIsKept();
        meritFarBelow();
        objecting();
        objectingCloses();
        verdict();
        playToTheEnd();
        playAlike();
        proof();
        proofOfLikeOnes();
        bowed();
        notes();
        looks();
        marks();
        asks();
        settle();
        hearings();
        hearingsBows();
        lowestTerms();
        days();
        undo();
        images();
        twins.end();
    }

    private static SidesChange court(int one, int two, int bowsOfZero, int bowsOfOne, int[]... points) {
        SidesChange x = new SidesChange();
        x.suit(one, two);
        x.bows(0, bowsOfZero);
        x.bows(1, bowsOfOne);
        for (int[] point : points) {
            x.point(point[0], point[1], point[2]);
        }
        return x;
    }

    private static int[] p(int kind, int strength, int grounds) {
        return new int[] {kind, strength, grounds};
    }

    private static void turns() {
        twins.sentence("TURNS: how many POINTS were SAID; COUNSEL 0 is to speak in even TURNS, COUNSEL 1 in odd ones");
        SidesChange x = court(0, 0, 3, 3, p(0, 1, 1), p(0, 1, 1), p(0, 1, 1), p(0, 1, 1), p(0, 1, 1), p(0, 1, 1));
        for (int t = 0; t <= 6; t++) {
            twins.due("now(2)", x.now(2), t);
            twins.due("now(3)", x.now(3), t % 2);
            if (t < 6) {
                x.says(5 - t);
                x.objects();
                twins.due("now(2) behind an OBJECTING", x.now(2), t + 1);
                twins.due("now(3) behind an OBJECTING", x.now(3), (t + 1) % 2);
            }
        }
    }

    /** What one SAYING by a PLAIN COUNSEL 0 in TURN 0, MERIT 0, moves. */
    private static int first(int kind, int strength) {
        SidesChange x = court(0, 0, 0, 0, p(kind, strength, 0));
        int moves = x.moves(0);
        twins.due("says(0) of KIND " + kind + ", STRENGTH " + strength, x.says(0), moves);
        return moves;
    }

    private static void plainAndHearsay() {
        twins.sentence("0 PLAIN: g. 1 HEARSAY (under PLAIN): half (cut up) of PLAIN");
        int[] half = {1, 1, 2, 2, 3, 3, 4, 4, 5};
        for (int g = 1; g <= 9; g++) {
            twins.due("PLAIN " + g, first(0, g), g);
            twins.due("HEARSAY " + g, first(1, g), half[g - 1]);
        }
    }

    /** MERIT of CHAIR 0 of 1, 0 and -1 in TURN 2, where COUNSEL 0 speaks; of 1 and 0 in TURN 1, where COUNSEL 1 does. */
    private static void proofKind() {
        twins.sentence("2 PROOF (under PLAIN): twice PLAIN, if e is below 0, else as PLAIN");
        int[] seconds = {3, 4, 5};
        int[] moves = {7, 7, 14};
        for (int i = 0; i < 3; i++) {
            SidesChange x = court(0, 0, 0, 0, p(0, 4, 0), p(0, seconds[i], 0), p(2, 7, 0));
            x.says(0);
            x.says(1);
            twins.due("PROOF 7 by MERIT " + (4 - seconds[i]), x.moves(2), moves[i]);
            twins.due("says(2)", x.says(2), 4 - seconds[i] + moves[i]);
        }
        twins.sentence("PROOF by MERIT e of who speaks: of CHAIR 1 0 less that of CHAIR 0");
        SidesChange x = court(0, 0, 1, 1, p(0, 1, 1), p(2, 9, 0));
        x.says(0);
        twins.due("PROOF 9 of CHAIR 1 by MERIT -1", x.moves(1), 18);
        x.objects();
        twins.due("PROOF 9 of CHAIR 0 by MERIT 1", x.moves(1), 9);
        SidesChange y = court(2, 0, 0, 0, p(0, 1, 0), p(2, 9, 0));
        y.says(0);
        twins.due("PROOF 9 of CHAIR 1 by MERIT 0", y.moves(1), 9);
    }

    private static void rumour() {
        twins.sentence("3 RUMOUR (under HEARSAY): HEARSAY, and t");
        int[] due = {2, 3, 4, 5, 6, 7};
        SidesChange x = court(0, 0, 0, 0, p(3, 3, 0), p(3, 3, 0), p(3, 3, 0), p(3, 3, 0), p(3, 3, 0), p(3, 3, 0));
        for (int t = 0; t <= 5; t++) {
            twins.due("RUMOUR 3 in TURN " + t, x.moves(t), due[t]);
            x.says(t);
        }
        twins.due("RUMOUR 1 in TURN 0", first(3, 1), 1);
        twins.due("RUMOUR 9 in TURN 0", first(3, 9), 5);
    }

    private static void oath() {
        twins.sentence("4 OATH (under PROOF): 2 more than PROOF");
        twins.due("OATH 1", first(4, 1), 3);
        twins.due("OATH 9", first(4, 9), 11);
        SidesChange x = court(0, 0, 0, 0, p(0, 1, 0), p(4, 1, 0), p(4, 9, 0));
        x.says(0);
        twins.due("OATH 1 by MERIT -1", x.moves(1), 4);
        twins.due("OATH 9 by MERIT -1", x.moves(2), 20);
        SidesChange y = court(2, 0, 0, 0, p(0, 1, 0), p(4, 1, 0), p(4, 9, 0));
        y.says(0);
        twins.due("OATH 1 by MERIT 0 of CHAIR 1", y.moves(1), 3);
        twins.due("OATH 9 by MERIT 0 of CHAIR 1", y.moves(2), 11);
    }

    private static void cough() {
        twins.sentence("5 COUGH (under PLAIN): as PLAIN, but 0, if t is an odd number");
        SidesChange x = court(0, 0, 0, 0, p(5, 1, 0), p(5, 9, 0), p(5, 9, 0), p(5, 1, 0), p(5, 9, 0), p(5, 9, 0));
        int[] due = {1, 0, 9, 0, 9, 0};
        int[] merit = {1, 1, 10, 10, 19, 19};
        for (int t = 0; t <= 5; t++) {
            twins.due("COUGH in TURN " + t, x.moves(t), due[t]);
            twins.due("says(" + t + ")", x.says(t), merit[t]);
        }
    }

    /** COUNSEL 1 in TURN 1, in CHAIR 1 or, COUNSEL 0 being bowed to, in CHAIR 0; n by a COUGH, HEARSAY and PLAIN ones. */
    private static int counted(int kind, int n, int chair) {
        SidesChange x = court(0, kind, 1, 1, p(0, 9, 1), n == 0 ? p(5, 9, 0) : p(0, n, 0));
        x.says(0);
        if (chair == 0) {
            x.objects();
        }
        int moves = x.moves(1);
        twins.due("MERIT behind it", x.says(1), chair == 0 ? 9 + moves : 9 - moves);
        return moves;
    }

    private static void counselOfNothing() {
        twins.sentence("KINDS of COUNSEL say how much of n counts, n being 0, 1, 2");
        int[][] due = {{0, 1, 2}, {2, 3, 4}, {0, 0, 1}, {2, 3, 4}, {3, 0, 4}, {1, 1, 2}};
        for (int kind = 0; kind <= 5; kind++) {
            for (int n = 0; n <= 2; n++) {
                twins.due("KIND " + kind + " of " + n + " in CHAIR 0", counted(kind, n, 0), due[kind][n]);
                twins.due("KIND " + kind + " of " + n + " in CHAIR 1", counted(kind, n, 1), kind == 3 ? -due[kind][n] : due[kind][n]);
            }
        }
    }

    private static void counselByChair() {
        twins.sentence("3 HANGED (under FIERCE): FIERCE in CHAIR 0, 0 less FIERCE in CHAIR 1");
        for (int n = 0; n <= 9; n++) {
            twins.due("HANGED of " + n + " in CHAIR 0", counted(3, n, 0), n + 2);
            twins.due("HANGED of " + n + " in CHAIR 1", counted(3, n, 1), -n - 2);
        }
    }

    private static void technical() {
        twins.sentence("4 TECHNICAL (under MILD): MILD, 3 more, if n is an even number");
        int[] due = {3, 0, 4, 2, 6, 4, 8, 6, 10, 8};
        for (int n = 0; n <= 9; n++) {
            twins.due("TECHNICAL of " + n + " in CHAIR 0", counted(4, n, 0), due[n]);
            twins.due("TECHNICAL of " + n + " in CHAIR 1", counted(4, n, 1), due[n]);
        }
    }

    private static void brother() {
        twins.sentence("5 BROTHER (under FIERCE): half (cut) of FIERCE");
        int[] due = {1, 1, 2, 2, 3, 3, 4, 4, 5, 5};
        for (int n = 0; n <= 9; n++) {
            twins.due("BROTHER of " + n + " in CHAIR 0", counted(5, n, 0), due[n]);
            twins.due("BROTHER of " + n + " in CHAIR 1", counted(5, n, 1), due[n]);
        }
    }

    private static void mild() {
        twins.sentence("2 MILD (under PLAIN): 1 less than PLAIN, 0 at least");
        int[] due = {0, 0, 1, 2, 3, 4, 5, 6, 7, 8};
        for (int n = 0; n <= 9; n++) {
            twins.due("MILD of " + n + " in CHAIR 0", counted(2, n, 0), due[n]);
            twins.due("MILD of " + n + " in CHAIR 1", counted(2, n, 1), due[n]);
        }
    }

    /**
     * Two HANGED ones: whichever CHAIR, MERIT of CHAIR 0 rises, of an OATH 9 by 13 from CHAIR 0, by 22 from CHAIR 1 (whose MERIT is
     * below 0): 13, 35, 48, 70; an OATH 9 or 8 makes that 83 or 82, a PROOF g from CHAIR 1 is 2 g and 2 then.
     */
    private static void meritIsKept() {
        twins.sentence("MERIT (-99 .. 99 kept)");
        int[][] last = {{9, 6, 97}, {8, 7, 98}, {9, 7, 99}, {8, 8, 99}, {9, 8, 99}, {9, 9, 99}};
        for (int[] one : last) {
            SidesChange x = court(3, 3, 1, 1, p(4, 9, 0), p(4, 9, 0), p(4, 9, 0), p(4, 9, 0), p(4, one[0], 0), p(2, one[1], 1));
            twins.due("says(0)", x.says(0), 13);
            twins.due("says(1)", x.says(1), 35);
            twins.due("says(2)", x.says(2), 48);
            twins.due("says(3)", x.says(3), 70);
            twins.due("says(4)", x.says(4), 74 + one[0]);
            twins.due("moves(5): what counts, not what is kept", x.moves(5), -2 - 2 * one[1]);
            twins.due("play(0), COUNSEL 0 staying in CHAIR 0", x.play(0), one[2]);
            twins.due("says(5)", x.says(5), one[2]);
            twins.due("now(0)", x.now(0), one[2]);
            twins.due("undo()", x.undo(), 5);
            twins.due("MERIT behind undo()", x.now(0), 74 + one[0]);
            x.ends(one[2]);
            twins.due("bowed(0): {}, {5}", x.bowed(0), 2);
            twins.due("proof(0)", x.proof(0), 0);
        }
        SidesChange y = court(3, 3, 0, 0, p(4, 9, 0), p(4, 9, 0), p(4, 9, 0), p(4, 9, 0), p(4, 9, 0), p(4, 9, 0));
        for (int p = 0; p < 4; p++) {
            y.says(p);
        }
        y.ends(99);
        twins.due("105 told as 99", y.bowed(0), 1);
    }

    /** The least that MERIT comes to by six POINTS: two FIERCE ones, each speaking for CHAIR 1 from TURN 1 on. */
    private static void meritFarBelow() {
        twins.sentence("MERIT of CHAIR 1: 0 less it");
        SidesChange x = court(1, 1, 3, 3, p(0, 1, 0), p(4, 9, 1), p(4, 9, 1), p(4, 9, 1), p(4, 9, 1), p(4, 9, 1));
        twins.due("says(0)", x.says(0), 3);
        int[] due = {-19, -32, -45, -58, -71};
        for (int p = 1; p <= 5; p++) {
            twins.due("moves(" + p + ")", x.moves(p), p == 1 ? 22 : 13);
            twins.due("says(" + p + ")", x.says(p), due[p - 1]);
            twins.due("objects()", x.objects(), p % 2);
        }
        twins.due("now(0)", x.now(0), -71);
        twins.due("play(0): COUNSEL 0 sits in CHAIR 1", x.play(0), 71);
        for (int p = 5; p >= 2; p--) {
            x.undo();
            twins.due("MERIT behind undo()", x.now(0), due[p - 1]);
            x.undo();
            twins.due("MERIT behind undo()", x.now(0), due[p - 2]);
        }
        twins.due("undo() of a 9th", x.undo(), NO);
    }

    private static void objecting() {
        twins.sentence("OBJECTING: right behind a POINT, before the next, the other COUNSEL");
        SidesChange x = court(0, 0, 3, 3, p(0, 5, 3), p(0, 4, 3), p(0, 3, 0));
        twins.due("none SAID: now(4)", x.now(4), 0);
        twins.due("none SAID: objects()", x.objects(), NO);
        x.says(0);
        twins.due("right behind: now(4)", x.now(4), 1);
        x.says(1);
        twins.due("objects(): to the next one", x.objects(), 1);
        twins.due("GROUNDS of the first", x.of(0, 2), 3);
        twins.due("GROUNDS of the next", x.of(1, 2), 2);
        twins.due("BOWS of COUNSEL 0, the other one", x.about(0, 1), 2);
        twins.due("BOWS of COUNSEL 1, who spoke", x.about(1, 1), 3);
        x.says(2);
        twins.due("the next has no GROUNDS: the one before may not be objected to", x.objects(), NO);
        twins.sentence("OBJECTING: both change CHAIRS; what was SAID stays");
        SidesChange y = court(0, 0, 3, 3, p(0, 5, 3), p(0, 4, 3));
        y.says(0);
        twins.due("objects(): who sits in CHAIR 0", y.objects(), 1);
        twins.due("about(0, 2)", y.about(0, 2), 1);
        twins.due("about(1, 2)", y.about(1, 2), 0);
        twins.due("MERIT stays", y.now(0), 5);
        twins.due("SAID stays", y.of(0, 3), 1);
        twins.due("the TURN stays", y.now(2), 1);
        y.says(1);
        twins.due("COUNSEL 1 spoke for CHAIR 0", y.now(0), 9);
        twins.due("objects(): who sits in CHAIR 0", y.objects(), 0);
    }

    private static void objectingCloses() {
        twins.sentence("OBJECTING: behind the last POINT, too, once");
        SidesChange x = court(0, 0, 1, 1, p(0, 5, 3));
        x.says(0);
        twins.due("now(5)", x.now(5), 0);
        twins.due("now(4)", x.now(4), 1);
        twins.due("objects()", x.objects(), 1);
        twins.due("now(5) stays: the CHAIR", x.now(5), 0);
        twins.due("now(4)", x.now(4), 0);
        twins.due("objects() again", x.objects(), NO);
        twins.sentence("OBJECTING: BOWS told, a POINT that comes are not the next one SAID");
        SidesChange y = court(0, 0, 1, 0, p(0, 5, 3));
        y.says(0);
        twins.due("no BOW: now(4)", y.now(4), 0);
        y.bows(1, 1);
        twins.due("a BOW: now(4)", y.now(4), 1);
        y.point(0, 1, 1);
        twins.due("a POINT that came: now(4)", y.now(4), 1);
        y.bows(1, 0);
        twins.due("no BOW: now(4)", y.now(4), 0);
        y.suit(0, 0);
        y.point(0, 1, 1);
        twins.due("a suit: now(4)", y.now(4), 0);
    }

    private static void verdict() {
        twins.sentence("VERDICT: CHAIR 0 wins, if its MERIT is above 0, else CHAIR 1 does");
        int[] seconds = {4, 5, 6};
        int[] due = {0, 1, 1};
        for (int i = 0; i < 3; i++) {
            SidesChange x = court(0, 0, 1, 1, p(0, 5, 1), p(0, seconds[i], 1));
            x.says(0);
            twins.due("one of two SAID", x.now(5), NONE);
            x.says(1);
            twins.due("MERIT " + (5 - seconds[i]), x.now(5), due[i]);
            x.objects();
            twins.due("MERIT " + (5 - seconds[i]) + ", the CHAIRS changed", x.now(5), due[i]);
            twins.due("hearings(0)", x.hearings(0), 1);
            twins.due("COUNSEL 0 sits in CHAIR 1", x.part(0), due[i]);
            twins.due("days(1, 3)", x.days(1, 3), 3 * due[i]);
        }
    }

    private static void playToTheEnd() {
        twins.sentence("PLAY: MERIT of the CHAIR in which he himself sits at last (all POINTS SAID, what may be objected to having been or not)");
        SidesChange x = court(0, 0, 1, 1, p(0, 5, 1));
        twins.due("COUNSEL 1 bows behind the last POINT", x.play(0), -5);
        twins.due("no objection now", x.play(1), NONE);
        twins.due("the only one", x.play(2), 0);
        x.says(0);
        twins.due("how much", x.play(0), -5);
        twins.due("COUNSEL 1 objects", x.play(1), 1);
        twins.due("all are SAID", x.play(2), NONE);
        x.objects();
        twins.due("how much", x.play(0), -5);
        twins.due("once", x.play(1), NONE);
        twins.sentence("PLAY: an objection not being made now");
        SidesChange y = court(0, 0, 0, 1, p(0, 5, 1), p(0, 3, 0), p(0, 2, 0));
        y.says(0);
        // Bowed to, he says 3 for CHAIR 0 in which he sits then, and COUNSEL 0 2 for CHAIR 1: 6. Else 3 for CHAIR 1, 2 for CHAIR 0: 4.
        twins.due("how much", y.play(0), -6);
        twins.due("to object", y.play(1), 1);
        twins.due("what to say", y.play(2), 1);
    }

    private static void playAlike() {
        twins.sentence("PLAY: 0 (not, also if alike)");
        SidesChange x = court(2, 0, 1, 1, p(0, 1, 1));
        x.says(0);
        twins.due("COUNSEL 1, MERIT 0", x.play(1), 0);
        SidesChange y = court(0, 0, 1, 0, p(0, 5, 0), p(0, 5, 1));
        y.says(0);
        y.says(1);
        twins.due("COUNSEL 0, MERIT 0", y.play(1), 0);
        SidesChange z = court(0, 0, 1, 0, p(0, 5, 0), p(0, 6, 1));
        z.says(0);
        z.says(1);
        twins.due("COUNSEL 0, MERIT -1", z.play(1), 1);
        SidesChange w = court(0, 0, 1, 0, p(0, 6, 0), p(0, 5, 1));
        w.says(0);
        w.says(1);
        twins.due("COUNSEL 0, MERIT 1", w.play(1), 0);
        twins.sentence("PLAY: of like ones the least");
        SidesChange v = court(0, 0, 0, 0, p(0, 5, 0), p(0, 5, 0), p(0, 6, 0), p(0, 6, 0), p(0, 6, 0), p(0, 5, 0));
        twins.due("COUNSEL 0, of 5 5 6 6 6 5", v.play(2), 2);
        v.says(3);
        twins.due("COUNSEL 1, of 5 5 6 - 6 5: 5 now, 6 behind, or the other way", v.play(2), 0);
        v.says(4);
        v.says(2);
        twins.due("COUNSEL 1, of 5 5 - - - 5", v.play(2), 0);
        v.says(0);
        twins.due("COUNSEL 0, of - 5 - - - 5", v.play(2), 1);
    }

    private static void proof() {
        twins.sentence("PROOF: MERIT above 0 (CHAIR 0) or below 0 (CHAIR 1)");
        int[] seconds = {4, 5, 6};
        int[] dueForZero = {0, 4, 4};
        int[] dueForOne = {12, 12, 0};
        for (int i = 0; i < 3; i++) {
            // Behind 5 and the second: COUNSEL 0 says 2, COUNSEL 1 says 9.
            SidesChange x = court(0, 0, 3, 3, p(0, 5, 3), p(0, seconds[i], 3), p(0, 2, 3), p(0, 9, 3));
            x.says(0);
            x.says(1);
            twins.due("CHAIR 0, MERIT " + (5 - seconds[i]), x.proof(0), dueForZero[i]);
            twins.due("CHAIR 1, MERIT " + (5 - seconds[i]), x.proof(1), dueForOne[i]);
        }
        twins.sentence("PROOF: none");
        SidesChange y = court(0, 0, 0, 0, p(0, 5, 0), p(0, 5, 0));
        y.says(0);
        twins.due("CHAIR 1: 5 less 5 is not below 0", y.proof(1), NONE);
        y.says(1);
        twins.due("CHAIR 0, all SAID", y.proof(0), NONE);
        twins.due("CHAIR 1, all SAID", y.proof(1), NONE);
        SidesChange z = court(0, 0, 0, 0, p(0, 5, 0), p(0, 6, 0));
        z.says(0);
        twins.due("CHAIR 1: 5 less 6 is", z.proof(1), 2);
    }

    private static void proofOfLikeOnes() {
        twins.sentence("PROOF: the fewest POINTS; of like ones the least");
        SidesChange x = court(0, 0, 0, 0, p(0, 1, 0), p(0, 2, 0), p(0, 2, 0), p(0, 9, 0), p(0, 3, 0), p(0, 1, 0));
        twins.due("CHAIR 0", x.proof(0), 1);
        // Two of them by numbers: 1 and 2 (bits 1, 2), less than 1 and 9.
        twins.due("CHAIR 1", x.proof(1), 3);
        SidesChange y = court(0, 0, 0, 0, p(0, 9, 0), p(0, 1, 0), p(0, 1, 0), p(0, 1, 0), p(0, 9, 0), p(0, 1, 0));
        // 1 (POINT 1), 9 (POINT 4) is the only kind of two.
        twins.due("CHAIR 1", y.proof(1), 18);
        twins.sentence("PROOF: said by numbers, COUNSEL by turns, without objections, for the CHAIRS as they are");
        SidesChange z = court(0, 0, 0, 1, p(0, 9, 1), p(0, 8, 0), p(0, 1, 0));
        z.says(0);
        z.objects();
        twins.due("CHAIR 1: COUNSEL 1 in CHAIR 0 speaks first", z.proof(1), NONE);
        SidesChange w = court(0, 0, 0, 1, p(0, 1, 1), p(0, 1, 0), p(0, 9, 0));
        w.says(0);
        w.objects();
        twins.due("CHAIR 1: 1 and 1 of COUNSEL 1, less 9 of COUNSEL 0", w.proof(1), 6);
    }

    private static void bowed() {
        twins.sentence("BOWED: to each of which an objection could be made then");
        int[][] sixOfGround = {p(0, 1, 1), p(0, 1, 1), p(0, 1, 1), p(0, 1, 1), p(0, 1, 1), p(0, 1, 1)};
        twins.due("no BOWS", court(0, 0, 0, 0, sixOfGround).bowed(0), 1);
        twins.due("COUNSEL 1 has one", court(0, 0, 0, 1, sixOfGround).bowed(0), 4);
        twins.due("COUNSEL 1 has two", court(0, 0, 0, 2, sixOfGround).bowed(0), 7);
        twins.due("COUNSEL 1 has three", court(0, 0, 0, 3, sixOfGround).bowed(0), 8);
        twins.due("COUNSEL 0 has one", court(0, 0, 1, 0, sixOfGround).bowed(0), 4);
        twins.due("each has one", court(0, 0, 1, 1, sixOfGround).bowed(0), 16);
        twins.due("each has three", court(0, 0, 3, 3, sixOfGround).bowed(0), 64);
        twins.due("in some, COUNSEL 1 alone", court(0, 0, 0, 3, sixOfGround).bowed(2), 21);
        twins.due("in some, COUNSEL 0 alone", court(0, 0, 3, 0, sixOfGround).bowed(2), 42);
        twins.due("in all", court(0, 0, 3, 3, sixOfGround).bowed(1), 0);
        twins.due("no GROUNDS of the second", court(0, 0, 3, 3, p(0, 1, 1), p(0, 1, 0)).bowed(2), 1);
        twins.sentence("BOWED: from the state as it is when it is asked, POINTS not SAID yet");
        SidesChange x = court(0, 0, 3, 3, sixOfGround);
        for (int p = 0; p < 6; p++) {
            x.says(p);
            twins.due("sets behind " + (p + 1), x.bowed(0), 1 << 5 - p);
            twins.due("in some behind " + (p + 1), x.bowed(2), 62 << p & 63);
        }
        twins.sentence("ENDS: MERIT of CHAIR 0 was x at last");
        SidesChange y = court(0, 0, 1, 1, p(0, 5, 1), p(0, 5, 1));
        y.ends(0);
        twins.due("0: {}, {1}", y.bowed(0), 2);
        twins.due("in all", y.bowed(1), 0);
        y.forget(0);
        y.ends(10);
        twins.due("10: {0}, {0, 1}", y.bowed(0), 2);
        twins.due("in all", y.bowed(1), 1);
        twins.due("in some", y.bowed(2), 3);
        y.ends(10);
        y.ends(10);
        y.ends(10);
        twins.due("four alike", y.bowed(0), 2);
        y.forget(0);
        y.ends(10);
        y.ends(10);
        y.ends(10);
        y.ends(9);
        twins.due("the last of four unlike", y.bowed(0), 0);
        twins.due("no set", y.bowed(1), NONE);
        y.forget(0);
        y.ends(9);
        y.ends(10);
        twins.due("the first of two unlike", y.bowed(0), 0);
        y.forget(0);
        twins.due("no ENDS: all sets that can be", y.bowed(0), 4);
    }

    /** KINDS by which a POINT of STRENGTH g moved x by MERIT e in TURN t. */
    private static int noted(int g, int e, int t, int x) {
        SidesChange y = court(0, 0, 0, 0, p(0, 1, 0), p(0, 1, 0));
        y.note(1, g, e, t, x);
        twins.due("is() of another POINT", y.is(0), 63);
        return y.is(1);
    }

    private static void notes() {
        twins.sentence("NOTES: a POINT of STRENGTH g moved x by MERIT e in TURN t");
        twins.due("9 by -99 in 9: 9", noted(9, -99, 9, 9), 1);
        twins.due("9 by -99 in 9: 5", noted(9, -99, 9, 5), 2);
        twins.due("9 by -99 in 9: 18", noted(9, -99, 9, 18), 4);
        twins.due("9 by -99 in 9: 14", noted(9, -99, 9, 14), 8);
        twins.due("9 by -99 in 9: 20", noted(9, -99, 9, 20), 16);
        twins.due("9 by -99 in 9: 0", noted(9, -99, 9, 0), 32);
        twins.due("9 by -99 in 9: 40", noted(9, -99, 9, 40), 0);
        twins.due("9 by -1 in 8: 18", noted(9, -1, 8, 18), 4);
        twins.due("9 by 0 in 8: 9", noted(9, 0, 8, 9), 37);
        twins.due("9 by 99 in 0: 5", noted(9, 99, 0, 5), 10);
        twins.due("9 by 99 in 0: 11", noted(9, 99, 0, 11), 16);
        twins.due("1 by 99 in 0: 1", noted(1, 99, 0, 1), 47);
        twins.due("1 by 99 in 0: 3", noted(1, 99, 0, 3), 16);
        twins.due("1 by -1 in 1: 0", noted(1, -1, 1, 0), 32);
        twins.due("1 by -1 in 1: 2", noted(1, -1, 1, 2), 12);
        twins.sentence("IS: KINDS by which all NOTES of one are so");
        SidesChange x = court(0, 0, 0, 0, p(0, 1, 0), p(0, 1, 0));
        x.note(0, 4, 0, 0, 4);
        x.note(0, 4, 0, 0, 4);
        x.note(0, 4, 0, 0, 4);
        x.note(0, 4, 0, 0, 4);
        x.note(0, 4, 0, 0, 4);
        twins.due("five alike", x.is(0), 37);
        x.note(0, 4, 0, 1, 4);
        twins.due("the 6th tells against COUGH", x.is(0), 5);
        x.says(0);
        twins.due("SAID or not", x.is(0), 5);
    }

    private static void looks() {
        twins.sentence("LOOK: 100 t and 10 more than e (t 0 .. 5, e -10 .. 10)");
        twins.due("all KINDS, STRENGTH 9: TURN 1, MERIT -10", court(0, 0, 0, 0, p(0, 9, 0)).look(0), 100);
        SidesChange x = court(0, 0, 0, 0, p(0, 2, 0), p(0, 1, 0));
        // PLAIN, PROOF, RUMOUR, COUGH: by STRENGTH 2 all unlike in TURN 5 alone (2, 4, 6, 0).
        x.note(0, 4, 0, 2, 4);
        twins.due("is(0)", x.is(0), 45);
        twins.due("look(0)", x.look(0), 500);
        // PLAIN, PROOF, RUMOUR: by STRENGTH 1 in TURN 0 1, 2, 1, in TURN 1 1, 2, 2, in TURN 2 1, 2, 3.
        x.note(1, 4, 0, 2, 4);
        x.note(1, 2, 0, 1, 2);
        twins.due("is(1)", x.is(1), 13);
        twins.due("look(1)", x.look(1), 200);
        twins.sentence("LOOK: of like ones the least");
        SidesChange y = court(0, 0, 0, 0, p(0, 5, 0), p(0, 5, 0));
        y.note(0, 5, -1, 0, 12);
        twins.due("OATH alone", y.look(0), 0);
        y.note(1, 5, 0, 1, 5);
        twins.due("PLAIN, PROOF: MERIT -10 in TURN 0", y.look(1), 0);
        twins.sentence("LOOK: none: no KIND");
        y.note(1, 5, 0, 1, 6);
        twins.due("look(1)", y.look(1), NONE);
    }

    private static int marked(int n, int c, int x) {
        SidesChange y = new SidesChange();
        y.mark(1, n, c, x);
        twins.due("kinds() of the other one", y.kinds(0), 63);
        return y.kinds(1);
    }

    private static void marks() {
        twins.sentence("MARKS: of n (0 .. 40) x (-50 .. 50) counted for a COUNSEL in CHAIR c");
        twins.due("of 0 0 in CHAIR 0", marked(0, 0, 0), 5);
        twins.due("of 0 1 in CHAIR 0", marked(0, 0, 1), 32);
        twins.due("of 0 2 in CHAIR 0", marked(0, 0, 2), 10);
        twins.due("of 0 2 in CHAIR 1", marked(0, 1, 2), 2);
        twins.due("of 0 -2 in CHAIR 1", marked(0, 1, -2), 8);
        twins.due("of 0 3 in CHAIR 1", marked(0, 1, 3), 16);
        twins.due("of 40 40 in CHAIR 1", marked(40, 1, 40), 1);
        twins.due("of 40 42 in CHAIR 0", marked(40, 0, 42), 26);
        twins.due("of 40 42 in CHAIR 1", marked(40, 1, 42), 18);
        twins.due("of 40 39 in CHAIR 1", marked(40, 1, 39), 4);
        twins.due("of 40 -42 in CHAIR 1", marked(40, 1, -42), 8);
        twins.due("of 40 -42 in CHAIR 0", marked(40, 0, -42), 0);
        twins.due("of 40 21 in CHAIR 0", marked(40, 0, 21), 32);
        twins.due("of 39 38 in CHAIR 0", marked(39, 0, 38), 20);
        twins.due("of 39 20 in CHAIR 0", marked(39, 0, 20), 32);
        twins.due("of 1 0 in CHAIR 0", marked(1, 0, 0), 20);
        twins.due("of 1 1 in CHAIR 0", marked(1, 0, 1), 33);
        twins.due("of 40 50 in CHAIR 0", marked(40, 0, 50), 0);
        twins.due("of 40 -50 in CHAIR 1", marked(40, 1, -50), 0);
        twins.sentence("WHAT: KINDS of COUNSEL by which all MARKS of one are so");
        SidesChange x = new SidesChange();
        for (int i = 0; i < 5; i++) {
            x.mark(0, 4, 0, 6);
        }
        twins.due("five alike", x.kinds(0), 26);
        x.mark(0, 5, 0, 7);
        twins.due("the 6th tells against TECHNICAL", x.kinds(0), 10);
        x.suit(2, 2);
        twins.due("a suit forgets them", x.kinds(0), 63);
    }

    private static void asks() {
        twins.sentence("ASK: 100 c and n (c 0, 1, n 0 .. 40); of like ones the least");
        SidesChange x = new SidesChange();
        // CHAIR 0, n 0: 0, 2, 0, 2, 3, 1: two alike; no less by any, as FIERCE, HANGED are alike in CHAIR 0, and in CHAIR 1, n 0: two, too.
        twins.due("all KINDS", x.ask(0), 0);
        x.mark(0, 0, 0, 0);
        twins.due("PLAIN, MILD: alike of 0", x.ask(0), 1);
        x.mark(1, 5, 0, 7);
        twins.due("FIERCE, HANGED: unlike in CHAIR 1 alone", x.ask(1), 100);
        x.forget(2);
        x.mark(1, 4, 0, 6);
        twins.due("FIERCE, HANGED, TECHNICAL", x.ask(1), 100);
        x.mark(1, 4, 1, -6);
        twins.due("HANGED alone", x.ask(1), 0);
        twins.sentence("ASK: none: no KIND");
        x.mark(1, 4, 1, 6);
        twins.due("ask(1)", x.ask(1), NONE);
        twins.due("ask(0)", x.ask(0), 0);
    }

    /** Who offers more than 0 below 10 would get more by less; from 10 on one would get 5 at least without. */
    private static void settle() {
        twins.sentence("SETTLE: pairs 10 i and j that rest");
        int[][] sixOaths = {p(4, 9, 1), p(4, 9, 1), p(4, 9, 1), p(4, 9, 1), p(4, 9, 1), p(4, 9, 1)};
        SidesChange[] courts = {new SidesChange(), court(3, 3, 0, 0, sixOaths), court(1, 1, 0, 3, sixOaths),
            court(0, 0, 0, 0, p(0, 5, 0)), court(0, 0, 0, 0, p(0, 9, 0)), court(0, 0, 0, 1, p(0, 9, 1))};
        int[] worths = {0, 99, Integer.MIN_VALUE, 5, 9, -9};
        for (int i = 0; i < courts.length; i++) {
            if (worths[i] != Integer.MIN_VALUE) {
                twins.due("play(0)", courts[i].play(0), worths[i]);
            }
            twins.due("settle(-1)", courts[i].settle(-1), 1);
            twins.due("settle(0)", courts[i].settle(0), 0);
            twins.due("settle(1)", courts[i].settle(1), -5);
        }
    }

    private static void fraction(SidesChange x, long above, long below) {
        twins.due("part(0)", x.part(0), above);
        twins.due("part(1)", x.part(1), below);
    }

    private static void hearings() {
        twins.sentence("HEARINGS: by c of 10 (0 .. 10) an objection, apart, is made to each POINT not SAID yet that may be objected to");
        SidesChange x = court(0, 0, 1, 1, p(0, 5, 1));
        int[] above = {1, 9, 4, 7, 3, 1, 2, 3, 1, 1, 0};
        int[] below = {1, 10, 5, 10, 5, 2, 5, 10, 5, 10, 1};
        for (int c = 0; c <= 10; c++) {
            twins.due("hearings(" + c + ")", x.hearings(c), 1);
            fraction(x, above[c], below[c]);
        }
        x.says(0);
        twins.due("hearings(10): not to one that was SAID", x.hearings(10), 1);
        fraction(x, 1, 1);
        x.objects();
        x.hearings(0);
        fraction(x, 0, 1);
        SidesChange y = new SidesChange();
        y.hearings(5);
        twins.sentence("HEARINGS: no POINTS: MERIT 0, CHAIR 1 wins");
        fraction(y, 0, 1);
    }

    private static void hearingsBows() {
        twins.sentence("HEARINGS: BOWS, GROUNDS as they are then");
        // COUNSEL 1 alone has a BOW: to POINT 0 by 3 of 10, else to POINT 2 by 3 of 10: CHAIRS are changed once by 51 of 100.
        SidesChange x = court(0, 0, 0, 1, p(0, 9, 3), p(0, 1, 3), p(0, 1, 3));
        x.hearings(3);
        // Changed behind POINT 0: 9, 1 for CHAIR 0 by COUNSEL 1, 1 for CHAIR 1 by COUNSEL 0: CHAIR 0 wins, COUNSEL 1's.
        fraction(x, 49, 100);
        x.bows(1, 2);
        // Both BOWS by 9 of 100: COUNSEL 0 is in CHAIR 0 again.
        x.hearings(3);
        fraction(x, 58, 100);
        SidesChange y = court(0, 0, 0, 2, p(0, 9, 1), p(0, 1, 3), p(0, 1, 0));
        y.hearings(3);
        twins.sentence("HEARINGS: none without GROUNDS");
        fraction(y, 7, 10);
    }

    private static void fraction(SidesChange x, int above, int below) {
        int a = above;
        int b = below;
        while (b != 0) {
            int left = a % b;
            a = b;
            b = left;
        }
        fraction(x, (long) above / a, (long) below / a);
    }

    private static void lowestTerms() {
        twins.sentence("THE FRACTION: lowest terms");
        int[][] six = {p(0, 9, 3), p(0, 1, 3), p(0, 1, 3), p(0, 1, 3), p(0, 1, 3), p(0, 1, 3)};
        SidesChange x = court(0, 0, 3, 3, six);
        x.hearings(0);
        fraction(x, 1L, 1L);
        // CHAIR 0 wins, whoever bows: COUNSEL 0's, if there are 0, 2, 4, 6 bows, by 3 of 10 each: (1 + 0.4 to the 6th) by 2.
        x.hearings(3);
        fraction(x, 15689L, 31250L);
        x.hearings(5);
        fraction(x, 1L, 2L);
        // By 1 of 10 each: (1 + 0.8 to the 6th) by 2 is 0.631072.
        x.hearings(1);
        fraction(x, 19721L, 31250L);
        x.hearings(10);
        fraction(x, 1L, 1L);
        SidesChange y = court(0, 0, 3, 3, p(0, 9, 3), p(0, 1, 3), p(0, 1, 3), p(0, 1, 3), p(0, 1, 3));
        y.hearings(10);
        fraction(y, 0L, 1L);
    }

    private static void days() {
        twins.sentence("DAYS: X times 1103515245 and 12345, by 2147483648 what is left over");
        // A PLAIN 5: COUNSEL 0 wins where nobody objects. By SEED 999999 X is 1751684876: by 65536 (cut) 26728, an even number.
        SidesChange x = court(0, 0, 3, 3, p(0, 5, 3));
        twins.due("days(999999, 1)", x.days(999999, 1), 1);
        long seed = 999999;
        int won = 0;
        for (int n = 1; n <= 60; n++) {
            seed = (seed * 1103515245L + 12345L) % 2147483648L;
            won += seed / 65536 % 2 == 0 ? 1 : 0;
            twins.due("days(999999, " + n + ")", x.days(999999, n), won);
        }
        twins.due("days(999999, 0)", x.days(999999, 0), 0);
        twins.sentence("DAYS: for all POINTS not SAID yet, objected to or not, X goes on");
        SidesChange y = court(0, 0, 0, 0, p(0, 5, 0), p(0, 1, 0), p(0, 1, 0));
        twins.due("no BOWS: all won", y.days(7, 60), 60);
        SidesChange z = court(0, 0, 0, 3, p(0, 1, 0), p(0, 1, 0), p(0, 5, 3));
        seed = 0;
        won = 0;
        for (int n = 1; n <= 60; n++) {
            for (int p = 0; p < 3; p++) {
                seed = (seed * 1103515245L + 12345L) % 2147483648L;
            }
            won += seed / 65536 % 2 == 0 ? 1 : 0;
            twins.due("days(0, " + n + ")", z.days(0, n), won);
        }
        z.says(2);
        twins.due("the one with GROUNDS was SAID: days(0, 60)", z.days(0, 60), 60);
    }

    private static void undo() {
        twins.sentence("UNDO: which POINTS are SAID, GROUNDS, BOWS, CHAIRS, MERIT, the TURN");
        SidesChange x = court(1, 3, 3, 3, p(1, 5, 3), p(2, 6, 3), p(3, 7, 3));
        long[] digests = new long[6];
        for (int i = 0; i < 6; i++) {
            digests[i] = x.digest();
            if (i % 2 == 0) {
                x.says(2 - i / 2);
            } else {
                x.objects();
            }
        }
        // What may be undone is in the digest, too: as many as ahead of it.
        for (int i = 5; i >= 0; i--) {
            twins.due("undo() to " + i, x.undo(), (i + 1) / 2);
            twins.due("digest()", x.digest(), digests[i]);
            twins.due("count(6)", x.count(6), i);
        }
        twins.due("undo()", x.undo(), NO);
        x.says(0);
        twins.due("undo() of what came anew", x.undo(), 0);
        twins.due("digest()", x.digest(), digests[0]);
        twins.sentence("UNDO: ENDS, NOTES, MARKS, THE FRACTION, THE TEXT are not undone");
        SidesChange y = court(0, 0, 1, 1, p(0, 5, 1));
        y.says(0);
        y.ends(1);
        y.note(0, 1, 1, 1, 1);
        y.mark(0, 1, 1, 1);
        y.type(99);
        y.hearings(0);
        y.undo();
        twins.due("count(3)", y.count(3), 1);
        twins.due("count(4)", y.count(4), 1);
        twins.due("count(5)", y.count(5), 1);
        twins.due("count(7)", y.count(7), 1);
        twins.due("part(0)", y.part(0), 1);
    }

    private static void images() {
        twins.sentence("IMAGES 0, 1; what may be undone they keep; it goes on from one");
        SidesChange x = court(0, 0, 3, 3, p(0, 5, 3), p(0, 4, 3));
        x.image(0);
        x.says(0);
        x.objects();
        x.image(1);
        x.says(1);
        x.objects();
        long last = x.digest();
        twins.due("from(0)", x.from(0), 1);
        twins.due("undo(): none ahead of it", x.undo(), NO);
        twins.due("now(4)", x.now(4), 0);
        twins.due("from(1)", x.from(1), 1);
        twins.due("count(6)", x.count(6), 2);
        twins.due("now(4)", x.now(4), 0);
        x.says(1);
        x.objects();
        twins.due("it goes on from one as before", x.digest(), last);
        twins.due("undo()", x.undo(), 2);
        twins.due("undo()", x.undo(), 1);
        twins.due("undo() of what was ahead of the IMAGE", x.undo(), 1);
        twins.due("now(4)", x.now(4), 1);
        twins.due("undo()", x.undo(), 0);
        twins.due("undo()", x.undo(), NO);
        twins.due("from(1) again", x.from(1), 1);
        twins.due("count(6)", x.count(6), 2);
        x.suit(5, 5);
        twins.due("an IMAGE stays behind a suit", x.from(0), 1);
        twins.due("count(0)", x.count(0), 2);
        twins.due("image(0) in place of it", x.image(0), 1);
        x.suit(5, 5);
        x.image(0);
        x.from(1);
        x.from(0);
        twins.due("KIND of the newer IMAGE", x.about(0, 0), 5);
        twins.due("count(0)", x.count(0), 0);
    }
}
