/** THE TEXT of ../shared/DOC.md: what it may hold, each FAULT at its place, and what a CASE that is read takes the place of. */
public final class BoundsOfTextTest {
    private static final Twins twins = new Twins("BoundsOfTextTest");
    private static final String SIX = "case 0 0;point 0 1 1;point 0 1 1;point 0 1 1;point 0 1 1;point 0 1 1;point 0 1 1;";

    public static void main(String[] args) {
        length();
        items();
        bytesBehind();
        bytesInWords();
        bytesInNumbers();
        bytesAhead();
        blanks();
        figures();
        caseNumbers();
        bowsNumbers();
        pointNumbers();
        sayNumbers();
        words();
        caseOnceAndFirst();
        seventhPoint();
        objections();
        sayings();
        tooEarly();
        firstFault();
        allStays();
        takesThePlace();
        twins.end();
    }

    private static void reads(String text, int want) {
        SidesChange x = new SidesChange();
        Twins.write(x, text);
        twins.due("read() of '" + text + "'", x.read(), want);
        twins.due("status behind '" + text + "'", x.status(0) + x.status(1) + x.status(2), 0);
        twins.due("THE TEXT behind '" + text + "'", x.count(7), text.length());
    }

    private static void faults(String text, int place) {
        reads(text, -10 - place);
    }

    private static void length() {
        twins.sentence("a TEXT (150 bytes at most)");
        reads("case 0 0;" + " ".repeat(141), 1);
        reads(" ".repeat(141) + "case 0 0;", 1);
        reads("case 0 0" + " ".repeat(141) + ";", 1);
        reads("case" + " ".repeat(142) + "0 0;", 1);
        faults(" ".repeat(150), 150);
        faults(" ".repeat(149) + "c", 149);
        faults(" ".repeat(146) + "case", 150);
        faults("case 0 0" + " ".repeat(142), 150);
        faults("case 0 0;" + " ".repeat(140) + "x", 149);
        faults("case 0 0;" + " ".repeat(140) + ";", 149);
        faults("case 0 0;" + " ".repeat(134) + "object", 143);
        faults("c".repeat(150), 0);
        faults("0".repeat(150), 0);
        faults(";".repeat(150), 0);
        faults("case 0 0;" + "b".repeat(141), 9);
        twins.sentence("the TEXT's length, if it ends too early (an empty one, too)");
        faults("", 0);
        faults(" ", 1);
        SidesChange x = new SidesChange();
        Twins.write(x, "case 0 0;" + " ".repeat(141));
        twins.due("a 151st byte", x.type('x'), SidesChange.FULL);
        twins.due("read(): it is not in THE TEXT", x.read(), 1);
    }

    private static void items() {
        twins.sentence("read: how many ITEMS");
        reads("case 0 0;", 1);
        reads("case 0 0;bows 0 0;", 2);
        StringBuilder text = new StringBuilder("case0 0;");
        for (int n = 1; n <= 17; n++) {
            text.append("bows0 ").append(n % 4).append(';');
            reads(text.toString(), n + 1);
        }
        twins.due("the longest run of ITEMS has bytes", text.length(), 144);
        reads(SIX + "say 0;object;say 1;object;say 2;say 3;say 4;say 5;", 15);
    }

    /** Behind an ITEM a blank may stand, and letters as the beginning of a word. */
    private static void bytesBehind() {
        twins.sentence("TOKENS: a byte that begins none");
        for (int c = 0; c <= 127; c++) {
            reads("case 0 0;" + (char) c, c == ' ' ? 1 : -19);
        }
    }

    private static void bytesInWords() {
        twins.sentence("TOKENS: words of letters a .. z, figures, ; ; blanks (32)");
        for (int c = 0; c <= 127; c++) {
            int due = c == ' ' || c == '0' ? 1 : c >= 'a' && c <= 'z' ? -10 : -14;
            reads("case" + (char) c + "0 0;", due);
        }
        for (int c = 0; c <= 127; c++) {
            reads("case 0 0;poi" + (char) c + "t 0 1 0;", c == 'n' ? 2 : -19);
        }
    }

    private static void bytesInNumbers() {
        twins.sentence("TOKENS: figures (1 or 2 are one number)");
        for (int c = 0; c <= 127; c++) {
            int due = -18;
            if (c == ' ' || c >= '0' && c <= '5') {
                due = 1;
            } else if (c >= '6' && c <= '9') {
                due = -17;
            } else if (c == ';') {
                due = -19;
            }
            reads("case 0 0" + (char) c + ";", due);
        }
        for (int c = 0; c <= 127; c++) {
            int due = -15;
            if (c >= '0' && c <= '5') {
                due = 1;
            }
            reads("case " + (char) c + " 0;", c == ' ' ? -18 : due);
        }
    }

    private static void bytesAhead() {
        twins.sentence("case: anything ahead of it");
        for (int c = 0; c <= 127; c++) {
            reads((char) c + "case 0 0;", c == ' ' ? 1 : -10);
        }
    }

    private static void blanks() {
        twins.sentence("blanks (32), any number, ahead of, between and behind TOKENS (needed only between two words, two numbers)");
        reads("case0 0;bows0 0;point0 1 0;say0;", 4);
        reads("case 0 0 ; bows 0 0 ; point 0 1 0 ; say 0 ; ", 4);
        reads("   case   0   0   ;   bows   1   3   ;   ", 2);
        reads("case0 0;point0 1 1;say0;object;", 4);
        reads("case0 0;point0 1 1;say0;object   ;", 4);
        faults("case00;", 6);
        faults("case 00;", 7);
        faults("case0 0;bows00;", 14);
        faults("case0 0;point01 1;", 17);
        faults("case0 0;point010;", 13);
        faults("ca se 0 0;", 0);
        faults("case 0 0;bo ws 0 0;", 9);
        faults("case 0 0;say0;", 12);
        faults("case\t0 0;", 4);
        faults("case\n0 0;", 4);
        faults("case 0\r0;", 6);
        faults("case0 0;point0 1 1;say0;objectobject;", 24);
        faults("case0 0;point0 1 1;say0;object object;", 31);
    }

    private static void figures() {
        twins.sentence("a run of three figures or more (at its first one)");
        reads("case 1 01;", 1);
        reads("case 00 00;", 1);
        reads("case 05 05;", 1);
        faults("case 001 1;", 5);
        faults("case 1 001;", 7);
        faults("case 000 0;", 5);
        faults("case 0000 0;", 5);
        faults("case 1 0000000001;", 7);
        faults("case 4294967296 1;", 5);
        faults("case 18446744073709551616 1;", 5);
        faults("case 0 0;bows 001 1;", 14);
        faults("case 0 0;bows 1 001;", 16);
        faults("case 0 0;point 000 1 1;", 15);
        faults("case 0 0;point 0 001 1;", 17);
        faults("case 0 0;point 0 1 001;", 19);
        faults("case 0 0;point 0 1 1;say 000;", 25);
        faults("case 0 0;000", 9);
        faults("case 0 0 000;", 9);
        faults("000case 0 0;", 0);
    }

    /** An ITEM of one number that is told in all ways of up to three figures. */
    private static void numbersAt(String ahead, String behind, int least, int most, int items) {
        for (int n = 0; n <= 120; n++) {
            boolean may = n >= least && n <= most;
            reads(ahead + n + behind, may ? items : -10 - ahead.length());
            if (n < 10) {
                reads(ahead + "0" + n + behind, may ? items : -10 - ahead.length());
                faults(ahead + "00" + n + behind, ahead.length());
            }
        }
        faults(ahead + "-1" + behind, ahead.length());
        faults(ahead + "+1" + behind, ahead.length());
        faults(ahead + "one" + behind, ahead.length());
        faults(ahead + ";" + behind, ahead.length());
        faults(ahead, ahead.length());
        faults(ahead + "  ", ahead.length() + 2);
    }

    private static void caseNumbers() {
        twins.sentence("case and two KINDS of COUNSEL (0 .. 5; a KIND is told as its number)");
        numbersAt("case ", " 0;", 0, 5, 1);
        numbersAt("case 0 ", ";", 0, 5, 1);
        faults("case plain plain;", 5);
        faults("case 0;", 6);
        faults("case;", 4);
        faults("case 0 0 0;", 9);
        faults("case 0 0 case", 9);
        for (int kind = 0; kind <= 5; kind++) {
            SidesChange x = new SidesChange();
            Twins.write(x, "case " + kind + " 0" + (5 - kind) + ";");
            x.read();
            twins.due("KIND of COUNSEL 0", x.about(0, 0), kind);
            twins.due("KIND of COUNSEL 1", x.about(1, 0), 5 - kind);
        }
    }

    private static void bowsNumbers() {
        twins.sentence("bows i n (0 .. 3)");
        numbersAt("case 0 0;bows ", " 0;", 0, 1, 2);
        numbersAt("case 0 0;bows 0 ", ";", 0, 3, 2);
        numbersAt("case 0 0;bows 1 ", ";", 0, 3, 2);
        faults("case 0 0;bows;", 13);
        faults("case 0 0;bows 0;", 15);
        faults("case 0 0;bows 0 0 0;", 18);
        for (int n = 0; n <= 3; n++) {
            SidesChange x = new SidesChange();
            Twins.write(x, "case 0 0;bows 1 " + n + ";bows 0 " + (3 - n) + ";");
            twins.due("read()", x.read(), 3);
            twins.due("BOWS of COUNSEL 0", x.about(0, 1), 3 - n);
            twins.due("BOWS of COUNSEL 1", x.about(1, 1), n);
        }
        SidesChange x = new SidesChange();
        x.bows(0, 3);
        x.bows(1, 3);
        Twins.write(x, "case 0 0;bows 1 2;bows 1 0;");
        x.read();
        twins.due("BOWS of COUNSEL 0: 1 at first", x.about(0, 1), 1);
        twins.due("BOWS of COUNSEL 1: the last told", x.about(1, 1), 0);
    }

    private static void pointNumbers() {
        twins.sentence("point KIND STRENGTH GROUNDS");
        numbersAt("case 0 0;point ", " 1 0;", 0, 5, 2);
        numbersAt("case 0 0;point 0 ", " 0;", 1, 9, 2);
        numbersAt("case 0 0;point 0 1 ", ";", 0, 3, 2);
        faults("case 0 0;point;", 14);
        faults("case 0 0;point 0;", 16);
        faults("case 0 0;point 0 1;", 18);
        faults("case 0 0;point 0 1 0 0;", 21);
        faults("case 0 0;point oath 1 0;", 15);
        SidesChange x = new SidesChange();
        Twins.write(x, "case 0 0;point 5 09 3;point 0 1 00;");
        twins.due("read()", x.read(), 3);
        int[][] due = {{5, 9, 3, 0}, {0, 1, 0, 0}};
        for (int p = 0; p <= 1; p++) {
            for (int what = 0; what <= 3; what++) {
                twins.due("of(" + p + ", " + what + ")", x.of(p, what), due[p][what]);
            }
        }
    }

    private static void sayNumbers() {
        twins.sentence("say p: a POINT that is not there yet, or was SAID");
        numbersAt("case 0 0;point 0 1 0;say ", ";", 0, 0, 3);
        numbersAt("case 0 0;point 0 1 0;point 0 1 0;point 0 1 0;say ", ";", 0, 2, 5);
        numbersAt(SIX + "say ", ";", 0, 5, 8);
        numbersAt(SIX + "say 2;say 0;say 5;say 4;say 1;say ", ";", 3, 3, 13);
        faults("case 0 0;say 0;", 13);
        faults("case 0 0;say 0;point 0 1 0;", 13);
        faults("case 0 0;point 0 1 0;say;", 24);
        faults("case 0 0;point 0 1 0;say 0 0;", 27);
        faults("case 0 0;point 0 1 0;say 0;say 0;", 31);
        faults("case 0 0;point 0 1 0;say 0;say 00;", 31);
        reads("case 0 0;point 0 1 0;say 0;point 0 1 0;say 1;", 5);
    }

    private static void words() {
        twins.sentence("a word that is none");
        String[] none = {"a", "z", "cas", "casee", "cases", "ccase", "bow", "bowss", "points", "poin", "pointt", "says", "sayy", "sa",
            "objects", "objec", "objection", "obiect", "plain", "and", "x"};
        for (String word : none) {
            faults("case 0 0;" + word + ";", 9);
            faults("case 0 0;" + word, 9);
            faults("case 0 0;  " + word + " 0 1 0;", 11);
            faults(word + " 0 0;", 0);
        }
        String[] capital = {"Bows 0 0;", "BOWS 0 0;", "Say 0;", "Object;", "[", "`", "{", "_", "-", "/", ":", "<", "!", "\u007f", "\0"};
        for (String word : capital) {
            faults("case 0 0;" + word, 9);
        }
        faults("case 0 0;boWs 0 0;", 9);
        faults("case 0 0;bowS 0 0;", 9);
        faults("case 0 0;bows! 0 0;", 13);
        faults("case 0 0;object", 9);
        faults("case 0 0;bows", 13);
        faults("case 0 0;point", 14);
        faults("case 0 0;say", 12);
    }

    private static void caseOnceAndFirst() {
        twins.sentence("case: once, first of all; case again");
        faults("case 0 0;case 0 0;", 9);
        faults("case 0 0;case", 9);
        faults("case 0 0;  case 6 6;", 11);
        faults("case 0 0;bows 0 0;case 0 0;", 18);
        faults("bows 0 0;", 0);
        faults("bows", 0);
        faults("  point 0 1 0;case 0 0;", 2);
        faults("say 0;", 0);
        faults("object;", 0);
        faults(";", 0);
        faults(" ;case 0 0;", 1);
        faults("0 case 0 0;", 0);
        faults("case 0 0;;", 9);
        faults("case 0 0; ;", 10);
        faults("case 0 0;0", 9);
    }

    private static void seventhPoint() {
        twins.sentence("a 7th point");
        reads(SIX, 7);
        faults(SIX + "point 0 1 1;", SIX.length());
        faults(SIX + "point", SIX.length());
        faults(SIX + "   point 9 9 9;", SIX.length() + 3);
        faults(SIX + "say 0;point 0 1 1;", SIX.length() + 6);
        reads(SIX.substring(0, SIX.length() - 12) + "say 0;point 0 1 1;", 8);
        faults(SIX + "poin 0 1 1;", SIX.length());
    }

    private static void objections() {
        twins.sentence("an objection that can not be at its word");
        reads("case 0 0;point 0 1 1;say 0;object;", 4);
        faults("case 0 0;point 0 1 1;object;", 21);
        faults("case 0 0;object;", 9);
        faults("case 0 0;point 0 1 0;say 0;object;", 27);
        faults("case 0 0;point 0 1 0;say 0;  object", 29);
        faults("case 0 0;point 0 1 0;say 0;object 9;", 27);
        faults("case 0 0;point 0 1 3;say 0;object;object;", 34);
        faults("case 0 0;bows 1 0;point 0 1 1;say 0;object;", 36);
        reads("case 0 0;bows 0 0;point 0 1 1;say 0;object;", 5);
        faults("case 0 0;bows 0 0;point 0 1 1;point 0 1 1;say 0;say 1;object;", 54);
        reads("case 0 0;bows 1 0;point 0 1 1;point 0 1 1;say 0;say 1;object;", 7);
        faults("case 0 0;point 0 1 1;point 0 1 0;say 0;say 1;object;", 45);
        faults("case 0 0;point 0 1 1;say 0;object", 33);
        faults("case 0 0;point 0 1 1;say 0;object 0;", 34);
        faults("case 0 0;point 0 1 1;say 0;object say", 34);
        // COUNSEL 1's one BOW is spent at POINT 0.
        faults(SIX + "say 0;object;say 1;say 2;object;", SIX.length() + 25);
        reads(SIX + "say 0;object;say 1;object;say 2;", 12);
        reads("case 0 0;point 0 1 1;say 0;bows 1 0;bows 1 1;object;", 6);
        reads("case 0 0;point 0 1 1;say 0;point 0 1 1;object;", 5);
    }

    private static void sayings() {
        twins.sentence("say p; object: as SAYING and OBJECTING");
        SidesChange x = new SidesChange();
        Twins.write(x, "case 1 3;bows 1 2;point 4 5 3;point 2 9 2;point 5 4 0;say 2;say 0;object;say 1;object;");
        twins.due("read()", x.read(), 10);
        // FIERCE by a COUGH 4 in TURN 0: 6. HANGED by an OATH 5 in CHAIR 1 by -6: 12, -14: 20. FIERCE by a PROOF 9 in CHAIR 1 by -20: 20.
        twins.due("now(0)", x.now(0), 0);
        twins.due("now(1)", x.now(1), 0);
        twins.due("now(2)", x.now(2), 3);
        twins.due("now(3)", x.now(3), 1);
        twins.due("now(4)", x.now(4), 0);
        twins.due("now(5)", x.now(5), 1);
        twins.due("about(0, 1)", x.about(0, 1), 0);
        twins.due("about(1, 1)", x.about(1, 1), 1);
        twins.due("of(0, 2)", x.of(0, 2), 2);
        twins.due("of(1, 2)", x.of(1, 2), 1);
    }

    /** Each beginning of a CASE: behind an ITEM it is one; in a word that is none yet its first byte, else its length is the FAULT. */
    private static void tooEarly() {
        twins.sentence("the TEXT's length, if it ends too early");
        String text = " case 3 05 ;bows 0 2; point 1 7 03;say 0 ;object;  ";
        int items = 0;
        for (int length = 0; length <= text.length(); length++) {
            String told = text.substring(0, length);
            int word = length;
            while (word > 0 && Character.isLetter(text.charAt(word - 1))) {
                word--;
            }
            boolean cut = word < length && length < text.length() && Character.isLetter(text.charAt(length));
            String left = told.substring(told.lastIndexOf(';') + 1);
            if (told.endsWith(";")) {
                items++;
            }
            if (items > 0 && left.isBlank()) {
                reads(told, items);
            } else {
                faults(told, cut ? word : length);
            }
        }
        twins.due("ITEMS in all", items, 5);
        faults("case 0 0;  bows 0 0   ", 22);
    }

    private static void firstFault() {
        twins.sentence("FAULT: the place of the first byte of the first TOKEN that can not stand there");
        faults("case 6 6;", 5);
        faults("case 0 6;object", 7);
        faults("case 0 0;bows 2 4;", 14);
        faults("case 0 0;bows 1 4 x", 16);
        faults("case 0 0;point 6 0 4;", 15);
        faults("case 0 0;point 5 0 4;", 17);
        faults("case 0 0;point 5 9 4;", 19);
        faults("case 0 0;say 0;object;", 13);
        faults("case 0 0;object;say 0;", 9);
        faults("case 0 0 bows 0 0;", 9);
        faults("case 0 bows 0 0;", 7);
        faults("case bows 0 0;", 5);
        faults("case 0 0;bows point;", 14);
        faults("case 0 0;bows 0 0 point", 18);
        faults("case case 0 0;", 5);
    }

    private static void busy(SidesChange x) {
        x.suit(1, 3);
        x.bows(0, 3);
        x.point(1, 5, 2);
        x.point(2, 7, 3);
        x.hearings(3);
        x.says(1);
        x.image(1);
        x.objects();
        x.ends(4);
        x.note(0, 5, -3, 1, 3);
        x.mark(1, 4, 1, -6);
    }

    private static void allStays() {
        twins.sentence("read: -10 less the FAULT: all stays");
        String[] texts = {"", "case 2 4", "case 2 4;bows 0 0;point 3 9 1;say 0;object;x", "case 2 4;point 3 9 1;say 0;say 0;"};
        int[] due = {-10, -18, -53, -41};
        for (int i = 0; i < texts.length; i++) {
            String text = texts[i];
            twins.asks(x -> {
                busy(x);
                Twins.write(x, text);
            }, "read() of '" + text + "'", SidesChange::read, due[i]);
        }
        SidesChange x = new SidesChange();
        busy(x);
        Twins.write(x, "case 2 4;bows 0 0;point 3 9 1;say 0;object;x");
        x.read();
        Twins.write(x, "case 0 0;");
        twins.due("read() behind a FAULT", x.read(), 1);
        twins.due("BOWS of COUNSEL 0", x.about(0, 1), 1);
        twins.due("count(0)", x.count(0), 0);
        twins.due("now(1)", x.now(1), 0);
    }

    /** The same CASE read, and told by calls; BOWS told anew leave nothing to be undone. */
    private static void takesThePlace() {
        twins.sentence("A CASE that is read takes the place of all but IMAGES, THE TEXT, THE FRACTION, STATUS (ENDS told, NOTES, MARKS none; nothing to undo)");
        String[] texts = {"case 2 4;", "case 2 4;bows 0 2;point 3 9 1;point 1 4 2;say 0;object;say 1;"};
        for (int told = 0; told <= 1; told++) {
            SidesChange x = new SidesChange();
            busy(x);
            Twins.write(x, texts[told]);
            twins.due("read()", x.read(), told == 0 ? 1 : 7);
            SidesChange y = new SidesChange();
            busy(y);
            Twins.write(y, texts[told]);
            y.suit(2, 4);
            if (told == 1) {
                y.bows(0, 2);
                y.point(3, 9, 1);
                y.point(1, 4, 2);
                y.says(0);
                y.objects();
                y.says(1);
                y.bows(0, 2);
            }
            for (int what = 0; what <= 2; what++) {
                twins.due("status(" + what + ")", x.status(what), y.status(what));
            }
            twins.due("count(3)", x.count(3), 0);
            twins.due("count(4)", x.count(4), 0);
            twins.due("count(5)", x.count(5), 0);
            twins.due("count(6)", x.count(6), 0);
            twins.due("count(7)", x.count(7), texts[told].length());
            twins.alike("read()", y, x);
        }
        SidesChange x = new SidesChange();
        busy(x);
        Twins.write(x, "case 2 4;point 0 1 1;say 0;");
        x.read();
        twins.due("read() again", x.read(), 3);
        twins.due("count(0): not twice", x.count(0), 1);
        twins.due("undo()", x.undo(), SidesChange.NO);
        twins.due("objects() to what THE TEXT said", x.objects(), 1);
        twins.due("undo() of that", x.undo(), 1);
        twins.due("undo() of what THE TEXT said", x.undo(), SidesChange.NO);
    }
}
