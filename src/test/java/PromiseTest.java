/** Each promise of ../shared/DOC.md by ordinary calls, the edges that it names, and wrong calls; answers worked out by hand. */
public final class PromiseTest {
    private static int wrong = 0;
    private static int asked = 0;
    private static int promise = 0;

    public static void main(String[] args) {
        newObject();
        suit();
        bows();
        point();
        type();
        clear();
        read();
        readFaults();
        readFaultsOfState();
        readTakesThePlace();
        says();
        counselKinds();
        pointKinds();
        meritIsKept();
        objects();
        objectsOnlyOnce();
        undo();
        undoDropped();
        now();
        of();
        about();
        moves();
        play();
        playBows();
        proof();
        ends();
        bowed();
        note();
        mark();
        forget();
        is();
        look();
        kinds();
        ask();
        settle();
        hearings();
        days();
        part();
        image();
        from();
        fullImage();
        status();
        count();
        digest();
        constants();
        System.out.println("PromiseTest: " + asked + " answers, " + wrong + " not as due");
        if (wrong != 0) {
            System.exit(1);
        }
    }

    private static void due(String call, long got, long want) {
        asked++;
        if (got != want) {
            wrong++;
            System.out.println("promise " + promise + ": " + call + " answered " + got + ", due is " + want);
        }
    }

    private static SidesChange begin(int number) {
        promise = number;
        return new SidesChange();
    }

    private static void write(SidesChange x, String text) {
        x.clear();
        for (int i = 0; i < text.length(); i++) {
            x.type(text.charAt(i));
        }
    }

    private static SidesChange told(int number, String text) {
        SidesChange x = begin(number);
        write(x, text);
        int answer = x.read();
        if (answer <= 0) {
            due("read of " + text, answer, 1);
        }
        return x;
    }

    private static void readsAs(String text, int want) {
        SidesChange x = new SidesChange();
        write(x, text);
        due("read of '" + text + "'", x.read(), want);
    }

    /** A refused call changes nothing but STATUS. */
    private static void refused(SidesChange x, String call, long got, long want, long digestBefore) {
        due(call, got, want);
        due("digest behind " + call, x.digest(), digestBefore);
    }

    private static void newObject() {
        SidesChange x = begin(1);
        for (int what = 0; what <= 7; what++) {
            due("count(" + what + ")", x.count(what), 0);
        }
        for (int what = 0; what <= 4; what++) {
            due("now(" + what + ")", x.now(what), 0);
        }
        for (int i = 0; i <= 1; i++) {
            due("KIND of " + i, x.about(i, 0), 0);
            due("BOWS of " + i, x.about(i, 1), 1);
            due("CHAIR of " + i, x.about(i, 2), i);
        }
        due("part(0)", x.part(0), 0);
        due("part(1)", x.part(1), 1);
        due("from(0)", x.from(0), SidesChange.NO);
        due("from(1)", x.from(1), SidesChange.NO);
        due("status(0)", x.status(0), 0);
        due("status(1)", x.status(1), 2);
        due("status(2)", x.status(2), 0);
    }

    private static void suit() {
        SidesChange x = begin(2);
        x.point(0, 5, 1);
        x.point(1, 5, 1);
        x.bows(0, 3);
        x.says(0);
        x.objects();
        x.ends(3);
        x.note(0, 1, 1, 1, 1);
        x.mark(0, 1, 1, 1);
        x.type(97);
        x.hearings(0);
        long over = x.part(0);
        long under = x.part(1);
        x.image(1);
        due("suit(5, 3)", x.suit(5, 3), 2);
        due("KIND of 0", x.about(0, 0), 5);
        due("KIND of 1", x.about(1, 0), 3);
        for (int what = 0; what <= 6; what++) {
            due("count(" + what + ")", x.count(what), 0);
        }
        due("BOWS of 0", x.about(0, 1), 1);
        due("BOWS of 1", x.about(1, 1), 1);
        due("now(0)", x.now(0), 0);
        due("now(1)", x.now(1), 0);
        due("now(2)", x.now(2), 0);
        due("now(4)", x.now(4), 0);
        due("undo()", x.undo(), SidesChange.NO);
        due("THE TEXT stays", x.count(7), 1);
        due("THE FRACTION stays, above", x.part(0), over);
        due("THE FRACTION stays, below", x.part(1), under);
        due("STATUS stays", x.status(1), 1);
        due("IMAGES stay", x.from(1), 1);
        due("POINTS of the IMAGE", x.count(0), 2);
        long before = x.digest();
        int[] off = {-1, 6, Integer.MIN_VALUE, Integer.MAX_VALUE};
        for (int kind : off) {
            refused(x, "suit(" + kind + ", 0)", x.suit(kind, 0), SidesChange.BAD, before);
            refused(x, "suit(0, " + kind + ")", x.suit(0, kind), SidesChange.BAD, before);
        }
        due("status(0)", x.status(0), 8);
        x.suit(0, 0);
        x.point(0, 5, 1);
        x.says(0);
        x.suit(0, 0);
        x.point(0, 5, 1);
        due("objects(), nothing SAID in this suit", x.objects(), SidesChange.NO);
        for (int kind = 0; kind <= 5; kind++) {
            x.suit(kind, 5 - kind);
            due("KIND of 0", x.about(0, 0), kind);
            due("KIND of 1", x.about(1, 0), 5 - kind);
        }
    }

    private static void bows() {
        SidesChange x = begin(3);
        due("bows(0, 3)", x.bows(0, 3), 1);
        due("bows(1, 0)", x.bows(1, 0), 1);
        due("bows(0, 2)", x.bows(0, 2), 3);
        due("bows(1, 1)", x.bows(1, 1), 0);
        due("about(0, 1)", x.about(0, 1), 2);
        due("about(1, 1)", x.about(1, 1), 1);
        long before = x.digest();
        refused(x, "bows(-1, 0)", x.bows(-1, 0), SidesChange.BAD, before);
        refused(x, "bows(2, 0)", x.bows(2, 0), SidesChange.BAD, before);
        refused(x, "bows(0, -1)", x.bows(0, -1), SidesChange.BAD, before);
        refused(x, "bows(1, 4)", x.bows(1, 4), SidesChange.BAD, before);
        due("status(0)", x.status(0), 4);
    }

    private static void point() {
        SidesChange x = begin(4);
        int[][] wrongOnes = {{-1, 1, 0}, {6, 1, 0}, {0, 0, 0}, {0, 10, 0}, {0, 1, -1}, {0, 1, 4}};
        for (int[] one : wrongOnes) {
            refused(x, "point(" + one[0] + ", ..)", x.point(one[0], one[1], one[2]), SidesChange.BAD, x.digest());
        }
        for (int p = 0; p < 6; p++) {
            due("point", x.point(p, 9 - p, p % 4), p);
        }
        for (int p = 0; p < 6; p++) {
            due("KIND", x.of(p, 0), p);
            due("STRENGTH", x.of(p, 1), 9 - p);
            due("GROUNDS", x.of(p, 2), p % 4);
            due("SAID", x.of(p, 3), 0);
        }
        long before = x.digest();
        refused(x, "a 7th point", x.point(0, 1, 0), SidesChange.FULL, before);
        refused(x, "a 7th point, wrong too", x.point(0, 0, 0), SidesChange.BAD, before);
        due("status(0)", x.status(0), 7);
        due("status(2)", x.status(2), 1);
    }

    private static void type() {
        SidesChange x = begin(5);
        due("type(-1)", x.type(-1), SidesChange.BAD);
        due("type(128)", x.type(128), SidesChange.BAD);
        due("type(0)", x.type(0), 1);
        due("type(127)", x.type(127), 2);
        for (int n = 3; n <= 150; n++) {
            due("type", x.type(32), n);
        }
        due("type of a 151st", x.type(32), SidesChange.FULL);
        due("type of a 151st, wrong too", x.type(128), SidesChange.BAD);
        due("count(7)", x.count(7), 150);
        due("status(0)", x.status(0), 3);
        due("status(2)", x.status(2), 1);
    }

    private static void clear() {
        SidesChange x = begin(6);
        due("clear()", x.clear(), 0);
        write(x, "case 1 1;");
        due("clear()", x.clear(), 9);
        due("count(7)", x.count(7), 0);
        due("clear()", x.clear(), 0);
        due("read()", x.read(), -10);
        write(x, "case 2 3;");
        due("read()", x.read(), 1);
        due("THE TEXT stays", x.count(7), 9);
    }

    private static void read() {
        promise = 7;
        readsAs("case 0 0;", 1);
        readsAs("case0 0;", 1);
        readsAs("   case   5   5   ;   ", 1);
        readsAs("case 00 05;", 1);
        readsAs("case 1 2;bows 0 3;bows1 0;point 5 9 3;point 0 1 0;say0;say1;", 7);
        readsAs("case 1 2 ; point 0 1 1 ; say 0 ; object ; ", 4);
        readsAs("case 0 0;point 0 1 1;say 0;bows 1 0;bows 1 1;object;", 6);
        readsAs("case 0 0;point 0 1 1;say 0;point 0 1 1;object;say 1;object;", 7);
        SidesChange x = told(7, "case 3 5;bows 0 2;bows 1 3;point 1 7 3;point 4 09 01;say 1;object;");
        due("KIND of 0", x.about(0, 0), 3);
        due("KIND of 1", x.about(1, 0), 5);
        due("BOWS of 0", x.about(0, 1), 2);
        due("BOWS of 1", x.about(1, 1), 2);
        due("who sits in CHAIR 0", x.now(1), 1);
        due("MERIT", x.now(0), 13);
        due("KIND of POINT 1", x.of(1, 0), 4);
        due("STRENGTH of POINT 1", x.of(1, 1), 9);
        due("GROUNDS of POINT 1", x.of(1, 2), 0);
        due("GROUNDS of POINT 0", x.of(0, 2), 3);
        due("SAID of POINT 1", x.of(1, 3), 1);
        due("SAID of POINT 0", x.of(0, 3), 0);
    }

    private static void readFaults() {
        promise = 7;
        readsAs("", -10);
        readsAs("   ", -13);
        readsAs("case", -14);
        readsAs("case 0", -16);
        readsAs("case 0 ", -17);
        readsAs("case 0 0", -18);
        readsAs("case 0 0  ", -20);
        readsAs("cas", -10);
        readsAs(" cases 0 0;", -11);
        readsAs("base 0 0;", -10);
        readsAs("cast 0 0;", -10);
        readsAs("Case 0 0;", -10);
        readsAs("caSe 0 0;", -10);
        readsAs("case,0 0;", -14);
        readsAs("case -1 0;", -15);
        readsAs("case 6 0;", -15);
        readsAs("case 0 6;", -17);
        readsAs("case 0;", -16);
        readsAs("case;", -14);
        readsAs("case 0 00", -19);
        readsAs("case 0 000;", -17);
        readsAs("case 000 0;", -15);
        readsAs("case 0123456789 0;", -15);
        readsAs("case 99999999999 0;", -15);
        readsAs("case 4294967296 0;", -15);
        readsAs("case 0 0 0;", -19);
        readsAs("case 0 0 case;", -19);
        readsAs("case 0 0;;", -19);
        readsAs("case 0 0; case 0 0;", -20);
        readsAs("case 0 0;7", -19);
        readsAs("case 0 0;777", -19);
        readsAs("case 0 0;mumble", -19);
        readsAs("case 0 0;\t", -19);
        readsAs(";case 0 0;", -10);
        readsAs("1 case 0 0;", -10);
        readsAs("bows 0 1;case 0 0;", -10);
        readsAs("point 0 1 0;case 0 0;", -10);
        readsAs("case 0 0;bows 2 0;", -24);
        readsAs("case 0 0;bows 0 4;", -26);
        readsAs("case 0 0;bows 01;", -24 - 2);
        readsAs("case 0 0;bows 0 1", -27);
        readsAs("case 0 0;point 6 1 0;", -25);
        readsAs("case 0 0;point 0 0 0;", -27);
        readsAs("case 0 0;point 0 10 0;", -27);
        readsAs("case 0 0;point 0 1 4;", -29);
        readsAs("case 0 0;point 0 1;", -28);
        readsAs("case 0 0;point 0 1 0 0;", -31);
    }

    private static void readFaultsOfState() {
        promise = 7;
        readsAs("case 0 0;say 0;", -23);
        readsAs("case 0 0;say;", -22);
        readsAs("case 0 0;say", -22);
        readsAs("case 0 0;point 0 1 0;say 1;", -35);
        readsAs("case 0 0;point 0 1 0;say 0;say 0;", -41);
        readsAs("case 0 0;object;", -19);
        readsAs("case 0 0;object", -19);
        readsAs("case 0 0;point 0 1 1;object;", -31);
        readsAs("case 0 0;point 0 1 0;say 0;object;", -37);
        readsAs("case 0 0;point 0 1 2;say 0;object;object;", -44);
        readsAs("case 0 0;bows 1 0;point 0 1 2;say 0;object;", -46);
        readsAs("case 0 0;bows 0 0;point 0 1 2;say 0;object;", 5);
        String six = "case 0 0;point 0 1 0;point 0 1 0;point 0 1 0;point 0 1 0;point 0 1 0;point 0 1 0;";
        readsAs(six, 7);
        readsAs(six + "say 5;say 0;", 9);
        readsAs(six + "point 0 1 0;", -10 - six.length());
        readsAs(six + " point", -11 - six.length());
        readsAs(six + "say 6;", -14 - six.length());
        SidesChange x = told(7, "case 0 0;");
        x.point(0, 5, 2);
        x.says(0);
        x.ends(4);
        x.image(0);
        write(x, "case 3 3;point 0 1 1;say 1;");
        long before = x.digest();
        refused(x, "read of a FAULT", x.read(), -35, before);
        due("STATUS knows no FAULT", x.status(0) + x.status(1) + x.status(2), 0);
        due("what may be undone stays", x.undo(), 0);
    }

    private static void readTakesThePlace() {
        SidesChange x = begin(7);
        x.suit(4, 4);
        x.bows(0, 3);
        x.point(1, 5, 1);
        x.hearings(5);
        x.says(0);
        x.image(1);
        x.ends(1);
        x.note(0, 1, 1, 1, 1);
        x.mark(0, 1, 1, 1);
        x.type(128);
        long over = x.part(0);
        write(x, "case 0 1;point 0 4 1;point 0 3 1;say 1;");
        due("read()", x.read(), 4);
        due("POINTS", x.count(0), 2);
        due("SAID", x.count(1), 1);
        due("ENDS", x.count(3), 0);
        due("NOTES", x.count(4), 0);
        due("MARKS", x.count(5), 0);
        due("what may be undone", x.count(6), 0);
        due("undo()", x.undo(), SidesChange.NO);
        due("BOWS of 0", x.about(0, 1), 1);
        due("MAY", x.now(4), 1);
        due("THE FRACTION stays", x.part(0), over);
        due("STATUS stays", x.status(0), 1);
        due("IMAGES stay", x.from(1), 1);
        due("KIND of the IMAGE's COUNSEL 0", x.about(0, 0), 4);
    }

    private static void says() {
        SidesChange x = begin(8);
        due("says(0), no POINT", x.says(0), -1000);
        x.point(0, 4, 0);
        x.point(0, 7, 0);
        due("says(-1)", x.says(-1), -1000);
        due("says(2)", x.says(2), -1000);
        due("says(1)", x.says(1), 7);
        due("says(1) again", x.says(1), -1001);
        due("TURN", x.now(2), 1);
        due("says(0)", x.says(0), 3);
        due("TURN", x.now(2), 2);
        due("SAID", x.of(0, 3), 1);
        due("status(0)", x.status(0), 3);
        due("status(1)", x.status(1), 1);
        due("a further POINT", x.point(0, 9, 0), 2);
        due("says(2) by COUNSEL 0", x.says(2), 12);
        due("a further POINT", x.point(0, 9, 0), 3);
        due("says(3) by COUNSEL 1", x.says(3), 3);
        x.point(0, 5, 0);
        x.point(0, 9, 0);
        due("says(5) by COUNSEL 0", x.says(5), 12);
        due("says(4) by COUNSEL 1", x.says(4), 7);
    }

    /** What counts of a PLAIN 4 and a PLAIN 7 (a PLAIN 1 and 4 for MILD ones), in both CHAIRS. */
    private static void counselKinds() {
        int[] four = {4, 6, 3, 6, 6, 3};
        int[] seven = {7, 9, 6, 9, 6, 4};
        for (int kind = 0; kind <= 5; kind++) {
            SidesChange x = begin(8);
            x.suit(kind, kind);
            x.point(0, 4, 0);
            x.point(0, 7, 0);
            int first = four[kind];
            int second = kind == 3 ? -seven[kind] : seven[kind];
            due("COUNSEL of KIND " + kind + " in CHAIR 0", x.says(0), first);
            due("COUNSEL of KIND " + kind + " in CHAIR 1", x.says(1), first - second);
        }
        SidesChange x = begin(8);
        x.suit(2, 2);
        x.point(5, 9, 0);
        x.point(5, 9, 0);
        due("a MILD one's 9", x.says(0), 8);
        due("a MILD one's 0", x.says(1), 8);
        x.suit(4, 4);
        x.point(0, 1, 0);
        x.point(5, 9, 0);
        due("a TECHNICAL one's 1", x.says(0), 0);
        due("a TECHNICAL one's 0", x.says(1), -3);
    }

    private static void pointKinds() {
        SidesChange x = begin(8);
        x.point(1, 5, 0);
        x.point(3, 5, 0);
        x.point(5, 9, 0);
        x.point(5, 8, 0);
        x.point(3, 2, 0);
        x.point(1, 1, 0);
        due("HEARSAY 5 in TURN 0", x.says(0), 3);
        due("RUMOUR 5 in TURN 1", x.says(1), -1);
        due("COUGH 9 in TURN 2", x.says(2), 8);
        due("COUGH 8 in TURN 3", x.says(3), 8);
        due("RUMOUR 2 in TURN 4", x.says(4), 13);
        due("HEARSAY 1 in TURN 5", x.says(5), 12);
        x.suit(0, 0);
        x.point(2, 3, 0);
        x.point(2, 3, 0);
        x.point(2, 3, 0);
        x.point(4, 3, 0);
        x.point(4, 3, 0);
        due("PROOF 3 by MERIT 0", x.says(0), 3);
        due("PROOF 3 by MERIT below 0 in CHAIR 1", x.says(1), -3);
        due("PROOF 3 by MERIT below 0 in CHAIR 0", x.says(2), 3);
        due("OATH 3 by MERIT below 0", x.says(3), -5);
        due("OATH 3 by MERIT below 0", x.says(4), 3);
        x.suit(0, 0);
        x.point(0, 3, 0);
        x.point(0, 9, 0);
        x.point(4, 3, 0);
        x.point(2, 4, 0);
        x.says(0);
        due("PLAIN 9 in CHAIR 1", x.says(1), -6);
        due("OATH 3", x.says(2), 2);
        due("PROOF 4", x.says(3), -6);
    }

    private static void meritIsKept() {
        SidesChange x = begin(8);
        x.suit(3, 3);
        x.bows(0, 3);
        x.bows(1, 3);
        for (int p = 0; p < 6; p++) {
            x.point(4, 9, 1);
        }
        due("an OATH in CHAIR 0", x.says(0), 13);
        due("HANGED in CHAIR 1", x.says(1), 35);
        due("objects()", x.objects(), 1);
        due("HANGED in CHAIR 1", x.says(2), 57);
        due("objects()", x.objects(), 0);
        due("HANGED in CHAIR 1", x.says(3), 79);
        due("objects()", x.objects(), 1);
        due("99 are kept", x.says(4), 99);
        due("objects()", x.objects(), 0);
        due("99 are kept", x.says(5), 99);
        due("undo()", x.undo(), 5);
        due("MERIT behind undo()", x.now(0), 99);
        x.undo();
        x.undo();
        due("MERIT behind undo()", x.now(0), 79);
    }

    private static void objects() {
        SidesChange x = begin(9);
        due("objects(), nothing SAID", x.objects(), SidesChange.NO);
        x.point(0, 4, 2);
        x.point(0, 5, 1);
        x.point(0, 6, 0);
        due("objects() behind a POINT that came", x.objects(), SidesChange.NO);
        x.says(0);
        due("objects()", x.objects(), 1);
        due("BOWS of 1", x.about(1, 1), 0);
        due("BOWS of 0", x.about(0, 1), 1);
        due("GROUNDS", x.of(0, 2), 1);
        due("GROUNDS of another", x.of(1, 2), 1);
        due("CHAIR of 0", x.about(0, 2), 1);
        due("CHAIR of 1", x.about(1, 2), 0);
        due("MERIT stays", x.now(0), 4);
        due("TURN stays", x.now(2), 1);
        due("who is to speak stays", x.now(3), 1);
        due("objects() again", x.objects(), SidesChange.NO);
        due("COUNSEL 1 speaks in CHAIR 0", x.says(1), 9);
        due("COUNSEL 0 objects", x.objects(), 0);
        due("BOWS of 0", x.about(0, 1), 0);
        due("COUNSEL 0 speaks in CHAIR 0", x.says(2), 15);
        due("objects(), no BOW, no GROUNDS", x.objects(), SidesChange.NO);
        due("status(1)", x.status(1), 4);
    }

    private static void objectsOnlyOnce() {
        SidesChange x = told(9, "case 0 0;bows 0 3;bows 1 3;point 0 4 3;point 0 5 3;say 0;");
        due("objects()", x.objects(), 1);
        due("a second one", x.objects(), SidesChange.NO);
        due("undo()", x.undo(), 1);
        due("objects() behind undo()", x.objects(), 1);
        x.undo();
        x.says(1);
        due("objects() to the next", x.objects(), 1);
        due("GROUNDS of the one passed by", x.of(0, 2), 3);
        due("GROUNDS of the next", x.of(1, 2), 2);
        x.undo();
        x.undo();
        due("MAY again to the first", x.now(4), 1);
        x.bows(1, 0);
        due("no BOW now", x.objects(), SidesChange.NO);
        x.bows(1, 2);
        due("a BOW now", x.objects(), 1);
        SidesChange y = told(9, "case 0 0;bows 1 0;point 0 4 3;say 0;");
        due("no BOW of his own", y.objects(), SidesChange.NO);
    }

    private static void undo() {
        SidesChange x = told(10, "case 0 0;bows 0 2;bows 1 2;point 0 4 3;point 0 5 3;point 0 1 0;");
        due("nothing to undo", x.undo(), SidesChange.NO);
        long start = x.digest();
        x.says(0);
        long said = x.digest();
        x.objects();
        x.says(2);
        due("count(6)", x.count(6), 3);
        due("undo()", x.undo(), 1);
        due("who sits in CHAIR 0", x.now(1), 1);
        due("BOWS", x.about(1, 1), 1);
        due("GROUNDS", x.of(0, 2), 2);
        due("SAID", x.of(2, 3), 0);
        due("MAY", x.now(4), 0);
        due("undo()", x.undo(), 1);
        due("digest()", x.digest(), said);
        due("MAY", x.now(4), 1);
        due("undo()", x.undo(), 0);
        due("digest()", x.digest(), start);
        due("undo()", x.undo(), SidesChange.NO);
        due("status(1)", x.status(1), 2);
        x.says(0);
        x.ends(5);
        x.undo();
        due("ENDS are not undone", x.count(3), 1);
        SidesChange z = told(10, "case 0 0;bows 0 2;bows 1 3;point 0 4 0;point 0 5 1;say 0;");
        z.says(1);
        z.objects();
        due("BOWS of 0", z.about(0, 1), 1);
        due("undo()", z.undo(), 2);
        due("BOWS of 0 behind undo()", z.about(0, 1), 2);
        due("BOWS of 1 behind undo()", z.about(1, 1), 3);
        SidesChange y = told(10, "case 0 0;bows 0 3;bows 1 3;point 0 1 1;point 0 1 1;point 0 1 1;point 0 1 1;point 0 1 1;");
        for (int p = 0; p < 5; p++) {
            y.says(p);
            y.objects();
            due("count(6)", y.count(6), Math.min(8, 2 * p + 2));
        }
        int[] turns = {5, 4, 4, 3, 3, 2, 2, 1};
        for (int turn : turns) {
            due("undo()", y.undo(), turn);
        }
        due("a 9th undo()", y.undo(), SidesChange.NO);
        due("the first objection stays", y.now(1), 1);
        due("the first MERIT stays", y.now(0), 1);
    }

    private static void undoDropped() {
        SidesChange x = told(10, "case 0 0;point 0 4 3;point 0 5 3;");
        x.says(0);
        x.bows(0, 4);
        x.point(0, 10, 0);
        x.suit(6, 0);
        due("refused calls drop nothing", x.count(6), 1);
        x.bows(0, 1);
        due("behind BOWS", x.undo(), SidesChange.NO);
        x.says(1);
        x.point(0, 1, 0);
        due("behind a POINT", x.undo(), SidesChange.NO);
        x.says(2);
        x.suit(0, 0);
        due("behind COUNSEL", x.undo(), SidesChange.NO);
    }

    private static void now() {
        SidesChange x = begin(11);
        due("VERDICT, no POINTS", x.now(5), 1);
        due("now(-1)", x.now(-1), -1000);
        due("now(6)", x.now(6), -1000);
        due("status(0)", x.status(0), 2);
        x.point(0, 4, 1);
        x.point(0, 4, 1);
        due("VERDICT, none SAID", x.now(5), SidesChange.NONE);
        x.says(0);
        due("MERIT", x.now(0), 4);
        due("CHAIR 0", x.now(1), 0);
        due("TURN", x.now(2), 1);
        due("to speak", x.now(3), 1);
        due("MAY", x.now(4), 1);
        due("VERDICT, one SAID", x.now(5), SidesChange.NONE);
        x.says(1);
        due("MERIT", x.now(0), 0);
        due("to speak", x.now(3), 0);
        due("VERDICT by MERIT 0", x.now(5), 1);
        due("MAY behind the last", x.now(4), 1);
        x.objects();
        due("CHAIR 0", x.now(1), 1);
        due("MAY", x.now(4), 0);
        x.point(0, 1, 0);
        due("VERDICT, one more POINT", x.now(5), SidesChange.NONE);
        due("COUNSEL 0 in CHAIR 1", x.says(2), -1);
        due("VERDICT", x.now(5), 1);
        x.point(0, 2, 0);
        due("COUNSEL 1 in CHAIR 0", x.says(3), 1);
        due("VERDICT", x.now(5), 0);
    }

    private static void of() {
        SidesChange x = begin(12);
        due("of(0, 0), no POINT", x.of(0, 0), SidesChange.BAD);
        x.point(3, 8, 2);
        due("KIND", x.of(0, 0), 3);
        due("STRENGTH", x.of(0, 1), 8);
        due("GROUNDS", x.of(0, 2), 2);
        due("SAID", x.of(0, 3), 0);
        due("of(0, 4)", x.of(0, 4), SidesChange.BAD);
        due("of(0, -1)", x.of(0, -1), SidesChange.BAD);
        due("of(1, 0)", x.of(1, 0), SidesChange.BAD);
        due("of(-1, 0)", x.of(-1, 0), SidesChange.BAD);
        due("of(6, 9)", x.of(6, 9), SidesChange.BAD);
        due("status(0)", x.status(0), 6);
        x.says(0);
        x.objects();
        due("GROUNDS", x.of(0, 2), 1);
        due("SAID", x.of(0, 3), 1);
    }

    private static void about() {
        SidesChange x = told(13, "case 4 1;bows 1 3;point 0 1 1;say 0;object;");
        due("KIND", x.about(0, 0), 4);
        due("KIND", x.about(1, 0), 1);
        due("BOWS", x.about(0, 1), 1);
        due("BOWS", x.about(1, 1), 2);
        due("CHAIR", x.about(0, 2), 1);
        due("CHAIR", x.about(1, 2), 0);
        due("about(2, 0)", x.about(2, 0), SidesChange.BAD);
        due("about(-1, 0)", x.about(-1, 0), SidesChange.BAD);
        due("about(0, 3)", x.about(0, 3), SidesChange.BAD);
        due("about(1, -1)", x.about(1, -1), SidesChange.BAD);
        due("status(0)", x.status(0), 4);
    }

    private static void moves() {
        SidesChange x = begin(14);
        due("moves(0), no POINT", x.moves(0), -1000);
        x.suit(1, 3);
        x.point(0, 4, 1);
        x.point(4, 5, 1);
        x.point(3, 9, 1);
        due("PLAIN 4 by FIERCE", x.moves(0), 6);
        due("OATH 5 by FIERCE", x.moves(1), 9);
        x.says(0);
        due("moves(0), SAID", x.moves(0), -1001);
        due("moves(3)", x.moves(3), -1000);
        due("moves(-1)", x.moves(-1), -1000);
        due("OATH 5 by HANGED in CHAIR 1", x.moves(1), -14);
        due("RUMOUR 9 by HANGED in CHAIR 1", x.moves(2), -8);
        x.objects();
        due("OATH 5 by HANGED in CHAIR 0", x.moves(1), 9);
        due("nothing is changed", x.now(0), 6);
        due("status(0)", x.status(0), 3);
        due("status(1)", x.status(1), 1);
    }

    private static void play() {
        SidesChange x = begin(15);
        due("play(-1)", x.play(-1), -1000);
        due("play(3)", x.play(3), -1000);
        due("status(0)", x.status(0), 2);
        due("no POINTS: how much", x.play(0), 0);
        due("no POINTS: to object", x.play(1), SidesChange.NONE);
        due("no POINTS: to say", x.play(2), SidesChange.NONE);
        x.point(0, 4, 0);
        x.point(0, 9, 0);
        x.point(0, 2, 0);
        due("9, 4, 2", x.play(0), 7);
        due("the 9 first", x.play(2), 1);
        long before = x.digest();
        x.says(1);
        due("COUNSEL 1 says the 4", x.play(2), 0);
        due("how much", x.play(0), 7);
        x.undo();
        due("nothing is changed", x.digest(), before);
        SidesChange y = told(15, "case 0 0;point 0 5 0;point 0 5 0;");
        due("of like ones the least", y.play(2), 0);
        y.says(0);
        due("the one left", y.play(2), 1);
        y.says(1);
        due("none left", y.play(2), SidesChange.NONE);
        due("none left: how much", y.play(0), 0);
    }

    private static void playBows() {
        SidesChange x = told(15, "case 0 0;bows 0 0;point 0 5 1;");
        due("he bows into the better chair", x.play(0), -5);
        x.says(0);
        due("to object", x.play(1), 1);
        due("nothing to say", x.play(2), SidesChange.NONE);
        due("how much", x.play(0), -5);
        SidesChange y = told(15, "case 0 0;point 5 9 0;point 5 3 1;say 0;say 1;");
        due("COUNSEL 0 may object", y.now(4), 1);
        due("COUNSEL 0 does not", y.play(1), 0);
        due("how much", y.play(0), 9);
        SidesChange z = told(15, "case 0 0;point 0 3 0;point 0 3 1;say 0;say 1;");
        due("not, if alike", z.play(1), 0);
        due("how much", z.play(0), 0);
        SidesChange w = told(15, "case 0 0;point 0 1 0;point 0 9 1;say 1;");
        due("objecting counts", w.play(0), -10);
        due("to object", w.play(1), 1);
        due("to say, an objection not being made", w.play(2), 0);
        SidesChange v = told(15, "case 0 3;bows 0 0;point 0 9 1;point 0 5 0;point 5 2 0;say 0;");
        due("what to say without the objection", v.play(2), 2);
        v.objects();
        due("what to say behind it", v.play(2), 1);
        SidesChange u = told(15, "case 2 0;point 0 1 1;say 0;");
        due("COUNSEL 1 neither, if alike", u.play(1), 0);
        SidesChange t = told(15, "case 0 0;point 0 5 0;point 0 5 0;point 0 5 0;say 0;");
        due("COUNSEL 1, too: of like ones the least", t.play(2), 1);
    }

    private static void proof() {
        SidesChange x = begin(16);
        due("proof(-1)", x.proof(-1), SidesChange.BAD);
        due("proof(2)", x.proof(2), SidesChange.BAD);
        due("status(0)", x.status(0), 2);
        due("no POINTS, CHAIR 0", x.proof(0), SidesChange.NONE);
        due("no POINTS, CHAIR 1", x.proof(1), SidesChange.NONE);
        x.point(0, 2, 3);
        due("one, CHAIR 0", x.proof(0), 1);
        due("one, CHAIR 1", x.proof(1), SidesChange.NONE);
        x.point(0, 2, 3);
        due("like ones, CHAIR 1", x.proof(1), SidesChange.NONE);
        x.point(0, 3, 3);
        due("CHAIR 1", x.proof(1), 5);
        x.point(0, 9, 3);
        due("CHAIR 1, the least", x.proof(1), 5);
        x.says(0);
        due("MERIT above 0 wants none", x.proof(0), 0);
        due("CHAIR 1", x.proof(1), 4);
        x.says(2);
        due("MERIT below 0 wants none", x.proof(1), 0);
        due("CHAIR 0", x.proof(0), 2);
        SidesChange y = told(16, "case 0 0;point 0 1 1;point 0 1 0;point 0 2 0;say 1;");
        due("behind an even turn", y.proof(1), 4);
        due("no objections", y.proof(0), 0);
        SidesChange z = told(16, "case 0 3;point 0 2 0;point 0 9 0;point 0 1 0;");
        due("HANGED in CHAIR 1", z.proof(1), SidesChange.NONE);
        SidesChange w = told(16, "case 0 0;point 0 9 0;point 0 4 0;point 0 5 0;point 0 3 0;point 0 3 0;say 0;");
        due("two need a third between", w.proof(1), SidesChange.NONE);
        // {0, 1, 2}: 3 - 2 + 1 - 3; {3}: 3 - 4: fewer, though not the lesser bits.
        SidesChange v = told(16, "case 0 0;point 0 2 0;point 0 1 0;point 0 3 0;point 0 4 0;point 0 3 0;say 4;");
        due("the fewest", v.proof(1), 8);
    }

    private static void ends() {
        SidesChange x = begin(17);
        due("ends(-100)", x.ends(-100), SidesChange.BAD);
        due("ends(100)", x.ends(100), SidesChange.BAD);
        due("ends(-99)", x.ends(-99), 1);
        due("ends(99)", x.ends(99), 2);
        due("ends(0)", x.ends(0), 3);
        due("ends(0)", x.ends(0), 4);
        due("ends(0), 5th", x.ends(0), SidesChange.FULL);
        due("ends(100), 5th", x.ends(100), SidesChange.BAD);
        due("count(3)", x.count(3), 4);
        due("status(0)", x.status(0), 3);
        due("status(2)", x.status(2), 1);
    }

    private static void bowed() {
        SidesChange x = told(18, "case 0 0;point 0 5 1;point 0 2 1;point 0 1 1;");
        due("bowed(-1)", x.bowed(-1), SidesChange.BAD);
        due("bowed(3)", x.bowed(3), SidesChange.BAD);
        due("status(0)", x.status(0), 2);
        due("all sets that can be", x.bowed(0), 6);
        due("in all", x.bowed(1), 0);
        due("in some", x.bowed(2), 7);
        x.ends(8);
        due("{0, 1} alone", x.bowed(0), 1);
        due("in all", x.bowed(1), 3);
        due("in some", x.bowed(2), 3);
        x.ends(8);
        due("two alike", x.bowed(0), 1);
        x.ends(4);
        due("two unlike", x.bowed(0), 0);
        due("in all: no set", x.bowed(1), SidesChange.NONE);
        due("in some: no set", x.bowed(2), 0);
        x.forget(0);
        x.ends(4);
        due("{}, {2}", x.bowed(0), 2);
        due("in all", x.bowed(1), 0);
        due("in some", x.bowed(2), 4);
        x.forget(0);
        x.ends(6);
        due("{0}", x.bowed(0), 1);
        due("in all", x.bowed(1), 1);
        x.says(0);
        due("from the state now, none by 6", x.bowed(0), 0);
        x.forget(0);
        x.ends(4);
        due("from the state now: {}, {2}", x.bowed(0), 2);
        due("in some", x.bowed(2), 4);
        x.objects();
        x.forget(0);
        due("COUNSEL 1 has no BOW left", x.bowed(0), 2);
        due("in some", x.bowed(2), 2);
        SidesChange y = told(18, "case 0 0;point 0 5 0;point 0 2 3;");
        due("only to what has GROUNDS", y.bowed(0), 2);
        due("in some", y.bowed(2), 2);
        SidesChange z = told(18, "case 0 0;point 0 5 1;point 0 2 1;");
        due("each, both, none", z.bowed(0), 4);
        z.ends(3);
        due("{}, {1}", z.bowed(0), 2);
        z.forget(0);
        z.ends(7);
        due("{0}, {0, 1}: in all", z.bowed(1), 1);
        due("{0}, {0, 1}: in some", z.bowed(2), 3);
    }

    private static void note() {
        SidesChange x = begin(19);
        due("note of no POINT", x.note(0, 1, 0, 0, 0), SidesChange.BAD);
        x.point(0, 1, 0);
        int[][] wrongOnes = {{-1, 1, 0, 0, 0}, {1, 1, 0, 0, 0}, {0, 0, 0, 0, 0}, {0, 10, 0, 0, 0}, {0, 1, -100, 0, 0},
            {0, 1, 100, 0, 0}, {0, 1, 0, -1, 0}, {0, 1, 0, 10, 0}, {0, 1, 0, 0, -1}, {0, 1, 0, 0, 41}};
        for (int[] one : wrongOnes) {
            refused(x, "note", x.note(one[0], one[1], one[2], one[3], one[4]), SidesChange.BAD, x.digest());
        }
        due("note", x.note(0, 1, -99, 0, 0), 1);
        due("note", x.note(0, 9, 99, 9, 40), 2);
        for (int n = 3; n <= 6; n++) {
            due("note", x.note(0, 5, 0, 0, 5), n);
        }
        due("a 7th note", x.note(0, 5, 0, 0, 5), SidesChange.FULL);
        due("a 7th note, wrong too", x.note(1, 5, 0, 0, 5), SidesChange.BAD);
        due("count(4)", x.count(4), 6);
        due("status(0)", x.status(0), 12);
        due("status(2)", x.status(2), 1);
    }

    private static void mark() {
        SidesChange x = begin(20);
        int[][] wrongOnes = {{-1, 0, 0, 0}, {2, 0, 0, 0}, {0, -1, 0, 0}, {0, 41, 0, 0}, {0, 0, -1, 0}, {0, 0, 2, 0},
            {0, 0, 0, -51}, {0, 0, 0, 51}};
        for (int[] one : wrongOnes) {
            refused(x, "mark", x.mark(one[0], one[1], one[2], one[3]), SidesChange.BAD, x.digest());
        }
        due("mark", x.mark(0, 0, 0, -50), 1);
        due("mark", x.mark(1, 40, 1, 50), 2);
        for (int n = 3; n <= 6; n++) {
            due("mark", x.mark(1, 5, 0, 5), n);
        }
        due("a 7th mark", x.mark(1, 5, 0, 5), SidesChange.FULL);
        due("a 7th mark, wrong too", x.mark(2, 5, 0, 5), SidesChange.BAD);
        due("count(5)", x.count(5), 6);
        due("status(0)", x.status(0), 9);
        due("status(2)", x.status(2), 1);
    }

    private static void forget() {
        SidesChange x = begin(21);
        x.point(0, 1, 0);
        x.ends(1);
        x.ends(1);
        x.ends(1);
        x.note(0, 1, 1, 1, 1);
        x.note(0, 1, 1, 1, 1);
        x.mark(0, 1, 1, 1);
        due("forget(-1)", x.forget(-1), SidesChange.BAD);
        due("forget(3)", x.forget(3), SidesChange.BAD);
        due("status(0)", x.status(0), 2);
        due("forget(1)", x.forget(1), 2);
        due("forget(1)", x.forget(1), 0);
        due("ENDS stay", x.count(3), 3);
        due("forget(0)", x.forget(0), 3);
        due("MARKS stay", x.count(5), 1);
        due("forget(2)", x.forget(2), 1);
        due("count(5)", x.count(5), 0);
        due("POINTS stay", x.count(0), 1);
    }

    private static void is() {
        SidesChange x = begin(22);
        due("is(0), no POINT", x.is(0), SidesChange.BAD);
        x.point(0, 1, 0);
        x.point(0, 1, 0);
        due("is(-1)", x.is(-1), SidesChange.BAD);
        due("is(2)", x.is(2), SidesChange.BAD);
        due("status(0)", x.status(0), 3);
        due("no NOTES", x.is(0), 63);
        x.note(0, 6, 0, 1, 6);
        due("PLAIN, PROOF", x.is(0), 5);
        due("of another one", x.is(1), 63);
        x.note(0, 6, -1, 1, 12);
        due("PROOF", x.is(0), 4);
        x.note(1, 6, 0, 1, 4);
        due("RUMOUR", x.is(1), 8);
        x.note(1, 6, 0, 1, 5);
        due("none", x.is(1), 0);
        x.forget(1);
        x.note(0, 6, 0, 1, 3);
        due("HEARSAY", x.is(0), 2);
        x.note(1, 6, 0, 1, 8);
        due("OATH", x.is(1), 16);
        x.forget(1);
        x.note(0, 6, 0, 1, 0);
        due("COUGH", x.is(0), 32);
        x.note(1, 7, -1, 0, 4);
        due("HEARSAY, RUMOUR", x.is(1), 10);
        x.note(1, 7, -1, 9, 13);
        due("RUMOUR", x.is(1), 8);
        x.forget(1);
        x.note(0, 1, 0, 0, 1);
        due("all but OATH", x.is(0), 47);
    }

    private static void look() {
        SidesChange x = begin(23);
        due("look(0), no POINT", x.look(0), SidesChange.BAD);
        x.point(0, 9, 0);
        due("look(-1)", x.look(-1), SidesChange.BAD);
        due("look(1)", x.look(1), SidesChange.BAD);
        due("status(0)", x.status(0), 3);
        due("all KINDS: TURN 1, MERIT -10", x.look(0), 100);
        x.note(0, 4, 0, 0, 4);
        due("PLAIN, PROOF, COUGH: TURN 1, MERIT -10", x.look(0), 100);
        x.note(0, 4, 0, 1, 4);
        due("PLAIN, PROOF: TURN 0, MERIT -10", x.look(0), 0);
        x.note(0, 4, -1, 0, 4);
        due("PLAIN alone: the least", x.look(0), 0);
        x.note(0, 4, -1, 0, 5);
        due("no KIND", x.look(0), SidesChange.NONE);
        x.suit(0, 0);
        x.point(0, 2, 0);
        due("STRENGTH 2", x.look(0), lookOfTwo());
        x.note(0, 1, 0, 0, 1);
        due("all but OATH, STRENGTH 2: RUMOUR's by TURN 5", x.look(0), 500);
        x.note(0, 1, -1, 0, 1);
        due("PLAIN, HEARSAY, RUMOUR, COUGH, STRENGTH 2: TURN 3", x.look(0), 300);
        x.point(0, 4, 0);
        x.note(1, 2, 0, 0, 2);
        x.note(1, 2, 0, 2, 2);
        due("PLAIN, PROOF, COUGH", x.look(1), 100);
    }

    /**
     * STRENGTH 2, all KINDS, MERIT below 0: PLAIN 2, HEARSAY 1, PROOF 4, RUMOUR 1 + t, OATH 6, COUGH 2 (0 by odd t). By even t
     * PLAIN and COUGH are alike; by t 1 RUMOUR is 2 as PLAIN, by t 3 it is 4 as PROOF, by t 5 it is 6 as OATH; MERIT from 0
     * makes PROOF 2 as PLAIN. So two are alike at the least: the least of all such.
     */
    private static int lookOfTwo() {
        return 0;
    }

    private static void kinds() {
        SidesChange x = begin(24);
        due("kinds(-1)", x.kinds(-1), SidesChange.BAD);
        due("kinds(2)", x.kinds(2), SidesChange.BAD);
        due("status(0)", x.status(0), 2);
        due("no MARKS", x.kinds(0), 63);
        x.mark(0, 4, 0, 6);
        due("FIERCE, HANGED, TECHNICAL", x.kinds(0), 26);
        due("of the other one", x.kinds(1), 63);
        x.mark(0, 4, 1, -6);
        due("HANGED", x.kinds(0), 8);
        x.mark(0, 4, 1, 6);
        due("none", x.kinds(0), 0);
        x.forget(2);
        x.mark(0, 7, 1, 7);
        due("PLAIN", x.kinds(0), 1);
        x.mark(1, 7, 1, 6);
        due("MILD, TECHNICAL", x.kinds(1), 20);
        x.mark(1, 0, 1, 0);
        due("MILD", x.kinds(1), 4);
        x.forget(2);
        x.mark(0, 7, 0, 4);
        due("BROTHER", x.kinds(0), 32);
        x.mark(1, 0, 0, 3);
        due("TECHNICAL", x.kinds(1), 16);
    }

    private static void ask() {
        SidesChange x = begin(25);
        due("ask(-1)", x.ask(-1), SidesChange.BAD);
        due("ask(2)", x.ask(2), SidesChange.BAD);
        due("status(0)", x.status(0), 2);
        due("all KINDS", x.ask(0), 0);
        x.mark(0, 4, 0, 6);
        due("FIERCE, HANGED, TECHNICAL", x.ask(0), 100);
        due("of the other one", x.ask(1), 0);
        x.mark(0, 5, 0, 7);
        due("FIERCE, HANGED", x.ask(0), 100);
        x.mark(0, 5, 1, 7);
        due("FIERCE alone: the least", x.ask(0), 0);
        x.mark(0, 5, 1, 8);
        due("no KIND", x.ask(0), SidesChange.NONE);
        x.mark(1, 0, 0, 0);
        due("PLAIN, MILD: n 1", x.ask(1), 1);
    }

    private static void settle() {
        SidesChange x = begin(26);
        due("settle(-2)", x.settle(-2), -10);
        due("settle(the least)", x.settle(Integer.MIN_VALUE), -10);
        due("how many", x.settle(-1), 1);
        due("the first", x.settle(0), 0);
        due("the second", x.settle(1), -5);
        due("the k-th", x.settle(Integer.MAX_VALUE), -5);
        due("status(0)", x.status(0), 2);
        due("status(1)", x.status(1), 0);
        due("status(2)", x.status(2), 0);
        x.suit(3, 3);
        x.bows(0, 3);
        x.bows(1, 3);
        for (int p = 0; p < 6; p++) {
            x.point(4, 9, 3);
        }
        due("how many", x.settle(-1), 1);
        due("the first", x.settle(0), 0);
        due("the second", x.settle(1), -5);
    }

    private static void hearings() {
        SidesChange x = begin(27);
        due("hearings(-1)", x.hearings(-1), SidesChange.BAD);
        due("hearings(11)", x.hearings(11), SidesChange.BAD);
        due("status(0)", x.status(0), 2);
        due("hearings(5)", x.hearings(5), 1);
        fraction(x, 0, 1);
        x.point(0, 5, 1);
        due("hearings(0)", x.hearings(0), 1);
        fraction(x, 1, 1);
        due("hearings(10)", x.hearings(10), 1);
        fraction(x, 0, 1);
        due("hearings(3)", x.hearings(3), 1);
        fraction(x, 7, 10);
        due("hearings(4)", x.hearings(4), 1);
        fraction(x, 3, 5);
        x.point(0, 2, 1);
        // {}: 3, won; {0}: 7 for COUNSEL 1, lost; {1}: 3 with COUNSEL 0 in CHAIR 1, lost; {0, 1}: 7 with COUNSEL 0 back, won.
        due("hearings(3)", x.hearings(3), 1);
        fraction(x, 58, 100);
        x.bows(1, 0);
        due("hearings(3), no BOW of COUNSEL 1", x.hearings(3), 1);
        fraction(x, 7, 10);
        x.says(0);
        x.says(1);
        due("hearings(3), all SAID", x.hearings(3), 1);
        fraction(x, 1, 1);
        long before = x.digest();
        refused(x, "hearings(11)", x.hearings(11), SidesChange.BAD, before);
    }

    private static void fraction(SidesChange x, long over, long under) {
        long a = over;
        long b = under;
        while (b != 0) {
            long left = a % b;
            a = b;
            b = left;
        }
        due("part(0)", x.part(0), over / a);
        due("part(1)", x.part(1), under / a);
    }

    private static void days() {
        SidesChange x = begin(28);
        due("days(999999, 60)", x.days(999999, 60), 0);
        due("days(-1, 0)", x.days(-1, 0), SidesChange.BAD);
        due("days(1000000, 0)", x.days(1000000, 0), SidesChange.BAD);
        due("days(0, -1)", x.days(0, -1), SidesChange.BAD);
        due("days(0, 61)", x.days(0, 61), SidesChange.BAD);
        due("status(0)", x.status(0), 4);
        due("no POINTS: CHAIR 1 wins", x.days(0, 60), 0);
        x.point(0, 5, 1);
        due("days(0, 0)", x.days(0, 0), 0);
        // X: 12345, 1406932606, 654583775, ..: by 65536 cut 0, 21468, 9988: even, so no objections.
        due("days(0, 3)", x.days(0, 3), 3);
        long seed = 0;
        int won = 0;
        for (int day = 1; day <= 60; day++) {
            seed = (seed * 1103515245L + 12345L) & 0x7fffffffL;
            won += (seed >> 16 & 1) == 0 ? 1 : 0;
            due("days(0, " + day + ")", x.days(0, day), won);
        }
        due("nothing is changed", x.count(1), 0);
        x.says(0);
        due("COUNSEL 0 has won", x.days(7, 60), 60);
        x.objects();
        due("COUNSEL 0 sits in CHAIR 1", x.days(7, 60), 0);
    }

    private static void part() {
        SidesChange x = begin(29);
        due("part(-1)", x.part(-1), SidesChange.BAD);
        due("part(2)", x.part(2), SidesChange.BAD);
        due("status(0)", x.status(0), 2);
        due("part(0)", x.part(0), 0);
        due("part(1)", x.part(1), 1);
        x.point(0, 5, 1);
        x.hearings(5);
        due("part(0)", x.part(0), 1);
        due("part(1)", x.part(1), 2);
        x.suit(0, 0);
        due("part(1) stays", x.part(1), 2);
    }

    private static void image() {
        SidesChange x = begin(30);
        due("image(-1)", x.image(-1), SidesChange.BAD);
        due("image(2)", x.image(2), SidesChange.BAD);
        due("status(0)", x.status(0), 2);
        due("image(0)", x.image(0), 1);
        x.point(0, 5, 1);
        due("image(1)", x.image(1), 1);
        x.point(0, 5, 1);
        x.from(1);
        due("POINTS", x.count(0), 1);
        x.from(0);
        due("POINTS", x.count(0), 0);
        x.point(2, 5, 1);
        x.point(2, 5, 1);
        x.image(0);
        x.suit(1, 1);
        x.from(0);
        due("a newer IMAGE", x.count(0), 2);
        x.from(1);
        due("the other IMAGE stays", x.count(0), 1);
    }

    private static void from() {
        SidesChange x = told(31, "case 4 5;bows 0 3;point 1 5 2;point 2 6 3;point 3 7 0;");
        due("from(-1)", x.from(-1), SidesChange.BAD);
        due("from(2)", x.from(2), SidesChange.BAD);
        due("from(0)", x.from(0), SidesChange.NO);
        x.says(1);
        x.objects();
        x.says(0);
        x.ends(4);
        x.note(1, 2, 3, 4, 5);
        x.mark(1, 2, 1, 4);
        x.image(1);
        long kept = x.digest();
        due("from(0)", x.from(0), SidesChange.NO);
        x.suit(0, 0);
        x.bows(0, 1);
        x.point(0, 1, 1);
        x.point(0, 2, 1);
        x.ends(9);
        x.ends(8);
        x.note(0, 9, 8, 7, 6);
        x.note(0, 9, 8, 7, 6);
        x.mark(0, 9, 0, 6);
        x.mark(0, 9, 0, 6);
        x.says(1);
        x.says(0);
        due("from(1)", x.from(1), 1);
        due("digest()", x.digest(), kept);
        due("MAY", x.now(4), 1);
        due("undo()", x.undo(), 1);
        due("undo()", x.undo(), 1);
        due("undo()", x.undo(), 0);
        due("undo()", x.undo(), SidesChange.NO);
        x.type(97);
        x.hearings(10);
        due("from(1)", x.from(1), 1);
        due("THE TEXT stays", x.count(7), 55);
        due("status(0)", x.status(0), 2);
        due("status(1)", x.status(1), 3);
        due("what may be undone", x.count(6), 3);
        x.says(2);
        x.from(1);
        due("the IMAGE is not changed by what goes on", x.of(2, 3), 0);
    }

    private static void fullImage() {
        SidesChange x = told(31, "case 0 0;point 0 5 0;point 0 6 0;point 0 7 0;");
        fill(x, 1);
        x.image(0);
        long kept = x.digest();
        x.suit(0, 0);
        x.point(1, 1, 1);
        x.point(1, 1, 1);
        x.point(1, 1, 1);
        fill(x, 2);
        due("another digest()", x.digest() == kept ? 1 : 0, 0);
        due("from(0)", x.from(0), 1);
        due("digest()", x.digest(), kept);
    }

    /** As many ENDS, NOTES and MARKS as there may be, each number told by how. */
    private static void fill(SidesChange x, int how) {
        for (int i = 0; i < 6; i++) {
            x.ends(10 * how + i);
            x.note(how, how + i, 10 * how + i, how + i % 3, 10 * how + i);
            x.mark(how - 1, 10 * how + i, how - 1, 10 * how + i);
        }
    }

    private static void status() {
        SidesChange x = begin(32);
        due("status(0)", x.status(0), 0);
        due("status(1)", x.status(1), 0);
        due("status(2)", x.status(2), 0);
        due("status(-1)", x.status(-1), -1);
        due("status(3)", x.status(3), -1);
        due("status(0)", x.status(0), 2);
        x.objects();
        x.undo();
        x.from(0);
        due("NO", x.status(1), 3);
        x.says(0);
        x.moves(0);
        x.now(9);
        x.play(9);
        x.settle(-9);
        x.part(9);
        due("BAD", x.status(0), 8);
        x.point(0, 1, 0);
        x.says(0);
        x.says(0);
        x.moves(0);
        due("NO", x.status(1), 5);
        for (int i = 0; i < 6; i++) {
            x.point(0, 1, 0);
            x.ends(0);
        }
        due("FULL", x.status(2), 3);
        x.read();
        x.settle(5);
        x.proof(1);
        due("BAD", x.status(0), 8);
        due("NO", x.status(1), 5);
        due("FULL", x.status(2), 3);
    }

    private static void count() {
        SidesChange x = told(33, "case 0 0;point 0 1 3;point 0 1 2;point 0 1 0;say 0;object;");
        x.says(1);
        x.ends(1);
        x.note(0, 1, 1, 1, 1);
        x.note(0, 1, 1, 1, 1);
        x.mark(0, 1, 1, 1);
        x.mark(0, 1, 1, 1);
        x.mark(0, 1, 1, 1);
        int[] want = {3, 2, 4, 1, 2, 3, 1, 58};
        for (int what = 0; what < want.length; what++) {
            due("count(" + what + ")", x.count(what), want[what]);
        }
        due("count(-1)", x.count(-1), SidesChange.BAD);
        due("count(8)", x.count(8), SidesChange.BAD);
        due("status(0)", x.status(0), 2);
    }

    private static void digest() {
        SidesChange x = begin(34);
        long h = 1597;
        for (int zeros = 0; zeros < 13; zeros++) {
            h = 31 * h;
        }
        long[] counsel = {0, 1, 0, 1, 0, 1};
        for (long v : counsel) {
            h = 31 * h + v;
        }
        due("of a new object", x.digest(), h);
        SidesChange y = told(34, "case 2 4;bows 1 2;point 1 5 3;point 5 7 2;say 0;object;");
        y.ends(-7);
        y.ends(8);
        y.note(1, 2, -3, 4, 5);
        y.note(0, 9, 8, 7, 6);
        y.mark(1, 2, 1, -4);
        y.hearings(10);
        long[] all = {2, 1, 4, 2, 2, 1, 0, y.count(7), 2, 1, 1, 1, 0, 2, 1, 4, 1, 1, 5, 2, 1, 5, 7, 2, 0, -7, 8,
            1, 2, -3, 4, 5, 0, 9, 8, 7, 6, 1, 2, 1, -4, 1, 1};
        h = 1597;
        for (long v : all) {
            h = 31 * h + v;
        }
        due("of a case", y.digest(), h);
        due("STATUS stays", y.status(0) + y.status(1) + y.status(2), 0);
    }

    private static void constants() {
        promise = 0;
        due("NONE", SidesChange.NONE, -1);
        due("BAD", SidesChange.BAD, -2);
        due("NO", SidesChange.NO, -3);
        due("FULL", SidesChange.FULL, -4);
    }
}
