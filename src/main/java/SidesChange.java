/** A case before the bar, in which counsel change chairs at each objection; ../shared/DOC.md says what each call answers. */
public final class SidesChange {
    public static final int NONE = -1, BAD = -2, NO = -3, FULL = -4;

    private static final int KIND_MOST = 5;
    private static final int BOWS_FIRST = 1;
    private static final int BOWS_MOST = 3;
    private static final int POINTS_MOST = 6;
    private static final int STRENGTH_MOST = 9;
    private static final int GROUNDS_MOST = 3;
    private static final int MERIT_MOST = 99;
    private static final int TEXT_MOST = 150;
    private static final int BYTE_MOST = 127;
    private static final int ENDS_MOST = 4;
    private static final int NOTES_MOST = 6;
    private static final int MARKS_MOST = 6;
    private static final int NOTE_WIDTH = 5;
    private static final int MARK_WIDTH = 4;
    private static final int NOTED_TURN_MOST = 9;
    private static final int MOVED_MOST = 40;
    private static final int COUNTED_MOST = 50;
    private static final int UNDO_MOST = 8;
    private static final int IMAGES = 2;
    private static final int OFFERS = 10;
    private static final int PEACE = 5;
    private static final int TENTHS = 10;
    private static final int SEED_MOST = 999999;
    private static final int DAYS_MOST = 60;

    /** Where an answer may be below 0, refusals are told by numbers that no MERIT reaches. */
    private static final int BAD_BEYOND = -1000;
    private static final int NO_BEYOND = -1001;
    private static final int BAD_OFFER = -10;
    private static final int NOT_SO_MANY = -5;
    private static final int FAULT_BASE = -10;

    private final Brief brief;
    private final Brief[] images;
    private final boolean[] imageKept;
    /** What is only tried out is tried here: no call needs to make a court of its own. */
    private final Court trial;
    private final Clerk clerk;
    private final int[] refusals;
    private long above;
    private long below;

    public SidesChange() {
        brief = new Brief();
        images = new Brief[IMAGES];
        for (int i = 0; i < IMAGES; i++) {
            images[i] = new Brief();
        }
        imageKept = new boolean[IMAGES];
        trial = new Court();
        clerk = new Clerk();
        refusals = new int[3];
        above = 0;
        below = 1;
    }

    // ---- a case

    public int suit(int one, int two) {
        if (!isKind(one) || !isKind(two)) {
            return refuseAsBad(BAD);
        }
        int had = brief.court.points;
        brief.begin(one, two);
        return had;
    }

    public int bows(int i, int n) {
        if (!isCounsel(i) || !within(0, n, BOWS_MOST)) {
            return refuseAsBad(BAD);
        }
        int had = brief.court.bowsLeft[i];
        brief.court.bowsLeft[i] = n;
        brief.dropPast();
        return had;
    }

    public int point(int kind, int strength, int grounds) {
        if (!isKind(kind) || !within(1, strength, STRENGTH_MOST) || !within(0, grounds, GROUNDS_MOST)) {
            return refuseAsBad(BAD);
        }
        if (!brief.court.hasRoom()) {
            return refuseAsFull();
        }
        int number = brief.court.points;
        brief.court.add(kind, strength, grounds);
        brief.dropPast();
        return number;
    }

    public int type(int c) {
        if (!within(0, c, BYTE_MOST)) {
            return refuseAsBad(BAD);
        }
        if (clerk.text.length >= TEXT_MOST) {
            return refuseAsFull();
        }
        clerk.text.append(c);
        return clerk.text.length;
    }

    public int clear() {
        int had = clerk.text.length;
        clerk.text.length = 0;
        return had;
    }

    public int read() {
        int items = clerk.readAll();
        if (items == NONE) {
            return FAULT_BASE - clerk.text.start;
        }
        brief.begin(0, 0);
        brief.court.copy(clerk.court);
        return items;
    }

    // ---- turns

    public int says(int p) {
        Court court = brief.court;
        if (!court.hasPoint(p)) {
            return refuseAsBad(BAD_BEYOND);
        }
        if (has(court.said, p)) {
            return refuseAsNo(NO_BEYOND);
        }
        brief.remember();
        court.speak(p);
        return court.merit;
    }

    public int objects() {
        if (!brief.court.mayObject()) {
            return refuseAsNo(NO);
        }
        brief.remember();
        brief.court.bow();
        return brief.court.sitter;
    }

    public int undo() {
        if (brief.pasts == 0) {
            return refuseAsNo(NO);
        }
        brief.goBack();
        return brief.court.turn();
    }

    public int now(int what) {
        Court court = brief.court;
        switch (what) {
            case 0: return court.merit;
            case 1: return court.sitter;
            case 2: return court.turn();
            case 3: return court.speaker();
            case 4: return court.mayObject() ? 1 : 0;
            case 5: return court.unsaid() == 0 ? court.winner() : NONE;
            default: return refuseAsBad(BAD_BEYOND);
        }
    }

    public int of(int p, int what) {
        Court court = brief.court;
        if (!court.hasPoint(p)) {
            return refuseAsBad(BAD);
        }
        switch (what) {
            case 0: return court.pointKinds[p];
            case 1: return court.strengths[p];
            case 2: return court.groundsLeft[p];
            case 3: return has(court.said, p) ? 1 : 0;
            default: return refuseAsBad(BAD);
        }
    }

    public int about(int i, int what) {
        Court court = brief.court;
        if (!isCounsel(i)) {
            return refuseAsBad(BAD);
        }
        switch (what) {
            case 0: return court.counselKinds[i];
            case 1: return court.bowsLeft[i];
            case 2: return court.chairOf(i);
            default: return refuseAsBad(BAD);
        }
    }

    // ---- play

    public int moves(int p) {
        Court court = brief.court;
        if (!court.hasPoint(p)) {
            return refuseAsBad(BAD_BEYOND);
        }
        if (has(court.said, p)) {
            return refuseAsNo(NO_BEYOND);
        }
        return court.counting(p);
    }

    public int play(int what) {
        if (!within(0, what, 2)) {
            return refuseAsBad(BAD_BEYOND);
        }
        trial.copy(brief.court);
        if (what == 0) {
            return BestPlay.worth(trial, -BestPlay.BEYOND, BestPlay.BEYOND, 0);
        }
        return what == 1 ? BestPlay.whetherToBow(trial) : BestPlay.whatToSay(trial);
    }

    public int proof(int c) {
        if (!isChair(c)) {
            return refuseAsBad(BAD);
        }
        trial.copy(brief.court);
        return Hearing.proofFor(trial, c);
    }

    // ---- what it was

    public int ends(int x) {
        if (!within(-MERIT_MOST, x, MERIT_MOST)) {
            return refuseAsBad(BAD);
        }
        if (brief.endCount >= ENDS_MOST) {
            return refuseAsFull();
        }
        brief.endMerits[brief.endCount] = x;
        brief.endCount++;
        return brief.endCount;
    }

    public int bowed(int what) {
        if (!within(0, what, 2)) {
            return refuseAsBad(BAD);
        }
        Court court = brief.court;
        int unsaid = court.unsaid();
        int sets = 0;
        int inAll = unsaid;
        int inSome = 0;
        for (int set = 0; set <= unsaid; set++) {
            if ((set & ~unsaid) != 0) {
                continue;
            }
            trial.copy(court);
            if (Hearing.bowsTo(trial, set) && brief.allEndsAre(trial.merit)) {
                sets++;
                inAll &= set;
                inSome |= set;
            }
        }
        if (what == 0) {
            return sets;
        }
        return what == 2 ? inSome : sets == 0 ? NONE : inAll;
    }

    public int note(int p, int g, int e, int t, int x) {
        if (!brief.court.hasPoint(p) || !within(1, g, STRENGTH_MOST) || !within(-MERIT_MOST, e, MERIT_MOST)
                || !within(0, t, NOTED_TURN_MOST) || !within(0, x, MOVED_MOST)) {
            return refuseAsBad(BAD);
        }
        if (brief.noteCount >= NOTES_MOST) {
            return refuseAsFull();
        }
        brief.addNote(p, g, e, t, x);
        return brief.noteCount;
    }

    public int mark(int i, int n, int c, int x) {
        if (!isCounsel(i) || !within(0, n, MOVED_MOST) || !isChair(c) || !within(-COUNTED_MOST, x, COUNTED_MOST)) {
            return refuseAsBad(BAD);
        }
        if (brief.markCount >= MARKS_MOST) {
            return refuseAsFull();
        }
        brief.addMark(i, n, c, x);
        return brief.markCount;
    }

    public int forget(int what) {
        int had;
        switch (what) {
            case 0:
                had = brief.endCount;
                brief.endCount = 0;
                return had;
            case 1:
                had = brief.noteCount;
                brief.noteCount = 0;
                return had;
            case 2:
                had = brief.markCount;
                brief.markCount = 0;
                return had;
            default:
                return refuseAsBad(BAD);
        }
    }

    public int is(int p) {
        if (!brief.court.hasPoint(p)) {
            return refuseAsBad(BAD);
        }
        return brief.pointKindsThatFit(p);
    }

    public int look(int p) {
        if (!brief.court.hasPoint(p)) {
            return refuseAsBad(BAD);
        }
        return Kinds.bestLook(brief.pointKindsThatFit(p), brief.court.strengths[p]);
    }

    public int kinds(int i) {
        if (!isCounsel(i)) {
            return refuseAsBad(BAD);
        }
        return brief.counselKindsThatFit(i);
    }

    public int ask(int i) {
        if (!isCounsel(i)) {
            return refuseAsBad(BAD);
        }
        return Kinds.bestQuestion(brief.counselKindsThatFit(i));
    }

    public int settle(int k) {
        if (k < NONE) {
            return refuseAsBad(BAD_OFFER);
        }
        trial.copy(brief.court);
        int worth = BestPlay.worth(trial, -BestPlay.BEYOND, BestPlay.BEYOND, 0);
        int found = 0;
        for (int pair = 0; pair < OFFERS * OFFERS; pair++) {
            if (Peace.rests(pair / OFFERS, pair % OFFERS, worth)) {
                if (found == k) {
                    return pair;
                }
                found++;
            }
        }
        return k == NONE ? found : NOT_SO_MANY;
    }

    public int hearings(int c) {
        if (!within(0, c, TENTHS)) {
            return refuseAsBad(BAD);
        }
        Court court = brief.court;
        int unsaid = court.unsaid();
        long winning = 0;
        for (int set = 0; set <= unsaid; set++) {
            if ((set & ~unsaid) == 0) {
                trial.copy(court);
                long weight = Hearing.weightOf(trial, set, c);
                winning += trial.counselZeroWins() ? weight : 0;
            }
        }
        long all = 1;
        for (int i = Integer.bitCount(unsaid); i > 0; i--) {
            all *= TENTHS;
        }
        keepFraction(winning, all);
        return 1;
    }

    public int days(int seed, int n) {
        if (!within(0, seed, SEED_MOST) || !within(0, n, DAYS_MOST)) {
            return refuseAsBad(BAD);
        }
        long x = seed;
        int won = 0;
        for (int day = 0; day < n; day++) {
            trial.copy(brief.court);
            x = Hearing.dayBy(trial, x);
            won += trial.counselZeroWins() ? 1 : 0;
        }
        return won;
    }

    // ---- what there is

    public long part(int what) {
        if (!within(0, what, 1)) {
            return refuseAsBad(BAD);
        }
        return what == 0 ? above : below;
    }

    public int image(int i) {
        if (!within(0, i, IMAGES - 1)) {
            return refuseAsBad(BAD);
        }
        images[i].copyAll(brief);
        imageKept[i] = true;
        return 1;
    }

    public int from(int i) {
        if (!within(0, i, IMAGES - 1)) {
            return refuseAsBad(BAD);
        }
        if (!imageKept[i]) {
            return refuseAsNo(NO);
        }
        brief.copyAll(images[i]);
        return 1;
    }

    public int status(int what) {
        if (!within(0, what, 2)) {
            return refuseAsBad(-1);
        }
        return refusals[what];
    }

    public int count(int what) {
        switch (what) {
            case 0: return brief.court.points;
            case 1: return brief.court.turn();
            case 2: return brief.court.allGroundsLeft();
            case 3: return brief.endCount;
            case 4: return brief.noteCount;
            case 5: return brief.markCount;
            case 6: return brief.pasts;
            case 7: return clerk.text.length;
            default: return refuseAsBad(BAD);
        }
    }

    public long digest() {
        long h = 1597;
        for (int what = 0; what <= 7; what++) {
            h = 31 * h + count(what);
        }
        for (int what = 0; what <= 4; what++) {
            h = 31 * h + now(what);
        }
        h = brief.court.digestOn(h);
        h = brief.digestOn(h);
        h = 31 * h + above;
        return 31 * h + below;
    }

    private void keepFraction(long over, long under) {
        long a = over;
        long b = under;
        // Euclid's remainders at least halve with every second step, so 128 steps end any pair of longs.
        for (int step = 0; step < 128 && b != 0; step++) {
            long left = a % b;
            a = b;
            b = left;
        }
        if (a > 0) {
            above = over / a;
            below = under / a;
        }
    }

    private int refuseAsBad(int answer) {
        refusals[0]++;
        return answer;
    }

    private int refuseAsNo(int answer) {
        refusals[1]++;
        return answer;
    }

    private int refuseAsFull() {
        refusals[2]++;
        return FULL;
    }

    private static boolean within(int least, int x, int most) {
        return least <= x && x <= most;
    }

    private static boolean isKind(int kind) {
        return within(0, kind, KIND_MOST);
    }

    private static boolean isCounsel(int i) {
        return within(0, i, 1);
    }

    private static boolean isChair(int c) {
        return within(0, c, 1);
    }

    private static boolean has(int bits, int i) {
        return (bits >> i & 1) != 0;
    }

    /** What KINDS do; one that stands under another is told by that other. */
    private static final class Kinds {
        private static final int LOOK_TURN_MOST = 5;
        private static final int LOOK_MERIT_MOST = 10;

        private Kinds() {
        }

        static int moved(int kind, int g, int e, int t) {
            switch (kind) {
                case 1: return hearsay(g);
                case 2: return evidence(g, e);
                case 3: return hearsay(g) + t;
                case 4: return evidence(g, e) + 2;
                case 5: return t % 2 != 0 ? 0 : g;
                default: return g;
            }
        }

        private static int hearsay(int g) {
            return (g + 1) / 2;
        }

        private static int evidence(int g, int e) {
            return e < 0 ? 2 * g : g;
        }

        static int counted(int kind, int n, int c) {
            switch (kind) {
                case 1: return fierce(n);
                case 2: return mild(n);
                case 3: return c == 0 ? fierce(n) : -fierce(n);
                case 4: return n % 2 == 0 ? mild(n) + 3 : mild(n);
                case 5: return fierce(n) / 2;
                default: return n;
            }
        }

        private static int fierce(int n) {
            return n + 2;
        }

        private static int mild(int n) {
            return n > 0 ? n - 1 : 0;
        }

        static int bestLook(int kinds, int g) {
            int best = NONE;
            int fewest = KIND_MOST + 2;
            for (int t = 0; t <= LOOK_TURN_MOST && kinds != 0; t++) {
                for (int e = -LOOK_MERIT_MOST; e <= LOOK_MERIT_MOST; e++) {
                    int alike = mostMovingAlike(kinds, g, e, t);
                    if (alike < fewest) {
                        fewest = alike;
                        best = 100 * t + e + LOOK_MERIT_MOST;
                    }
                }
            }
            return best;
        }

        private static int mostMovingAlike(int kinds, int g, int e, int t) {
            int most = 0;
            for (int one = 0; one <= KIND_MOST; one++) {
                int alike = 0;
                for (int other = 0; other <= KIND_MOST; other++) {
                    if (has(kinds, one) && has(kinds, other) && moved(one, g, e, t) == moved(other, g, e, t)) {
                        alike++;
                    }
                }
                most = Math.max(most, alike);
            }
            return most;
        }

        static int bestQuestion(int kinds) {
            int best = NONE;
            int fewest = KIND_MOST + 2;
            for (int c = 0; c <= 1 && kinds != 0; c++) {
                for (int n = 0; n <= MOVED_MOST; n++) {
                    int alike = mostCountingAlike(kinds, n, c);
                    if (alike < fewest) {
                        fewest = alike;
                        best = 100 * c + n;
                    }
                }
            }
            return best;
        }

        private static int mostCountingAlike(int kinds, int n, int c) {
            int most = 0;
            for (int one = 0; one <= KIND_MOST; one++) {
                int alike = 0;
                for (int other = 0; other <= KIND_MOST; other++) {
                    if (has(kinds, one) && has(kinds, other) && counted(one, n, c) == counted(other, n, c)) {
                        alike++;
                    }
                }
                most = Math.max(most, alike);
            }
            return most;
        }
    }

    /** Both COUNSEL, the POINTS and how far they have come with them. */
    private static final class Court {
        final int[] counselKinds = new int[2];
        final int[] bowsLeft = {BOWS_FIRST, BOWS_FIRST};
        final int[] pointKinds = new int[POINTS_MOST];
        final int[] strengths = new int[POINTS_MOST];
        final int[] groundsLeft = new int[POINTS_MOST];
        int points;
        int said;
        int merit;
        /** Who sits in CHAIR 0. */
        int sitter;
        /** The POINT last SAID, while nobody objected to it; NONE else. */
        int open = NONE;

        void begin(int one, int two) {
            counselKinds[0] = one;
            counselKinds[1] = two;
            bowsLeft[0] = BOWS_FIRST;
            bowsLeft[1] = BOWS_FIRST;
            points = 0;
            said = 0;
            merit = 0;
            sitter = 0;
            open = NONE;
        }

        void copy(Court other) {
            for (int i = 0; i < 2; i++) {
                counselKinds[i] = other.counselKinds[i];
                bowsLeft[i] = other.bowsLeft[i];
            }
            for (int p = 0; p < POINTS_MOST; p++) {
                pointKinds[p] = other.pointKinds[p];
                strengths[p] = other.strengths[p];
                groundsLeft[p] = other.groundsLeft[p];
            }
            points = other.points;
            said = other.said;
            merit = other.merit;
            sitter = other.sitter;
            open = other.open;
        }

        boolean hasRoom() {
            return points < POINTS_MOST;
        }

        void add(int kind, int strength, int grounds) {
            if (!within(0, points, POINTS_MOST - 1)) {
                return;
            }
            pointKinds[points] = kind;
            strengths[points] = strength;
            groundsLeft[points] = grounds;
            points++;
        }

        boolean hasPoint(int p) {
            return 0 <= p && p < points && p < POINTS_MOST;
        }

        int unsaid() {
            return (1 << points) - 1 & ~said;
        }

        int turn() {
            return Integer.bitCount(said);
        }

        int speaker() {
            return Integer.bitCount(said) & 1;
        }

        int chairOf(int i) {
            return i == sitter ? 0 : 1;
        }

        private int meritOfChair(int c) {
            return c == 0 ? merit : -merit;
        }

        int worthForCounselZero() {
            return meritOfChair(chairOf(0));
        }

        int winner() {
            return merit > 0 ? 0 : 1;
        }

        boolean counselZeroWins() {
            return winner() == chairOf(0);
        }

        int counting(int p) {
            if (!hasPoint(p)) {
                return 0;
            }
            int who = speaker();
            int chair = chairOf(who);
            int n = Kinds.moved(pointKinds[p], strengths[p], meritOfChair(chair), turn());
            return Kinds.counted(counselKinds[who], n, chair);
        }

        void speak(int p) {
            if (!hasPoint(p)) {
                return;
            }
            int counts = counting(p);
            int moved = chairOf(speaker()) == 0 ? merit + counts : merit - counts;
            merit = Math.max(-MERIT_MOST, Math.min(MERIT_MOST, moved));
            said |= 1 << p;
            open = p;
        }

        /** Who may object is who is to speak next: the one that did not speak just now. */
        boolean mayObject() {
            return hasPoint(open) && groundsLeft[open] > 0 && bowsLeft[speaker()] > 0;
        }

        void bow() {
            if (!mayObject()) {
                return;
            }
            bowsLeft[speaker()]--;
            groundsLeft[open]--;
            sitter = 1 - sitter;
            open = NONE;
        }

        int allGroundsLeft() {
            int all = 0;
            for (int p = 0; p < POINTS_MOST && p < points; p++) {
                all += groundsLeft[p];
            }
            return all;
        }

        /** All that SAYING and OBJECTING change, in one number, so that going back needs no objects. */
        long keep() {
            long kept = said;
            for (int p = 0; p < POINTS_MOST; p++) {
                kept = kept << 2 | groundsLeft[p];
            }
            kept = kept << 2 | bowsLeft[0];
            kept = kept << 2 | bowsLeft[1];
            kept = kept << 1 | sitter;
            kept = kept << 8 | merit + MERIT_MOST;
            return kept << 3 | open + 1;
        }

        void back(long kept) {
            long left = kept;
            open = (int) (left & 7) - 1;
            left >>= 3;
            merit = (int) (left & 255) - MERIT_MOST;
            left >>= 8;
            sitter = (int) (left & 1);
            left >>= 1;
            bowsLeft[1] = (int) (left & 3);
            left >>= 2;
            bowsLeft[0] = (int) (left & 3);
            left >>= 2;
            for (int p = POINTS_MOST - 1; p >= 0; p--) {
                groundsLeft[p] = (int) (left & 3);
                left >>= 2;
            }
            said = (int) left;
        }

        long digestOn(long before) {
            long h = before;
            for (int i = 0; i < 2; i++) {
                h = 31 * h + counselKinds[i];
                h = 31 * h + bowsLeft[i];
            }
            for (int p = 0; p < POINTS_MOST && p < points; p++) {
                h = 31 * h + pointKinds[p];
                h = 31 * h + strengths[p];
                h = 31 * h + groundsLeft[p];
                h = 31 * h + (has(said, p) ? 1 : 0);
            }
            return h;
        }
    }

    /** What an IMAGE keeps: the court, what was told of it, and what may be undone. */
    private static final class Brief {
        final Court court = new Court();
        final int[] endMerits = new int[ENDS_MOST];
        int endCount;
        final int[] notes = new int[NOTES_MOST * NOTE_WIDTH];
        int noteCount;
        final int[] marks = new int[MARKS_MOST * MARK_WIDTH];
        int markCount;
        final long[] past = new long[UNDO_MOST];
        int pasts;

        void begin(int one, int two) {
            court.begin(one, two);
            endCount = 0;
            noteCount = 0;
            markCount = 0;
            pasts = 0;
        }

        void copyAll(Brief other) {
            court.copy(other.court);
            System.arraycopy(other.endMerits, 0, endMerits, 0, ENDS_MOST);
            System.arraycopy(other.notes, 0, notes, 0, NOTES_MOST * NOTE_WIDTH);
            System.arraycopy(other.marks, 0, marks, 0, MARKS_MOST * MARK_WIDTH);
            System.arraycopy(other.past, 0, past, 0, UNDO_MOST);
            endCount = other.endCount;
            noteCount = other.noteCount;
            markCount = other.markCount;
            pasts = other.pasts;
        }

        void dropPast() {
            pasts = 0;
        }

        void remember() {
            if (pasts >= UNDO_MOST) {
                System.arraycopy(past, 1, past, 0, UNDO_MOST - 1);
                pasts = UNDO_MOST - 1;
            }
            past[pasts] = court.keep();
            pasts++;
        }

        void goBack() {
            if (pasts > 0) {
                pasts--;
                court.back(past[pasts]);
            }
        }

        void addNote(int p, int g, int e, int t, int x) {
            if (noteCount >= NOTES_MOST) {
                return;
            }
            int at = noteCount * NOTE_WIDTH;
            notes[at] = p;
            notes[at + 1] = g;
            notes[at + 2] = e;
            notes[at + 3] = t;
            notes[at + 4] = x;
            noteCount++;
        }

        void addMark(int i, int n, int c, int x) {
            if (markCount >= MARKS_MOST) {
                return;
            }
            int at = markCount * MARK_WIDTH;
            marks[at] = i;
            marks[at + 1] = n;
            marks[at + 2] = c;
            marks[at + 3] = x;
            markCount++;
        }

        boolean allEndsAre(int merit) {
            for (int i = 0; i < endCount && i < ENDS_MOST; i++) {
                if (endMerits[i] != merit) {
                    return false;
                }
            }
            return true;
        }

        int pointKindsThatFit(int p) {
            int fit = 0;
            for (int kind = 0; kind <= KIND_MOST; kind++) {
                if (notesFit(p, kind)) {
                    fit |= 1 << kind;
                }
            }
            return fit;
        }

        private boolean notesFit(int p, int kind) {
            for (int i = 0; i < noteCount && i < NOTES_MOST; i++) {
                int at = i * NOTE_WIDTH;
                if (notes[at] == p
                        && Kinds.moved(kind, notes[at + 1], notes[at + 2], notes[at + 3]) != notes[at + 4]) {
                    return false;
                }
            }
            return true;
        }

        int counselKindsThatFit(int counsel) {
            int fit = 0;
            for (int kind = 0; kind <= KIND_MOST; kind++) {
                if (marksFit(counsel, kind)) {
                    fit |= 1 << kind;
                }
            }
            return fit;
        }

        private boolean marksFit(int counsel, int kind) {
            for (int i = 0; i < markCount && i < MARKS_MOST; i++) {
                int at = i * MARK_WIDTH;
                if (marks[at] == counsel && Kinds.counted(kind, marks[at + 1], marks[at + 2]) != marks[at + 3]) {
                    return false;
                }
            }
            return true;
        }

        long digestOn(long before) {
            long h = before;
            for (int i = 0; i < endCount && i < ENDS_MOST; i++) {
                h = 31 * h + endMerits[i];
            }
            for (int i = 0; i < noteCount * NOTE_WIDTH && i < NOTES_MOST * NOTE_WIDTH; i++) {
                h = 31 * h + notes[i];
            }
            for (int i = 0; i < markCount * MARK_WIDTH && i < MARKS_MOST * MARK_WIDTH; i++) {
                h = 31 * h + marks[i];
            }
            return h;
        }
    }

    /** The best of both from here on; each of them leaves the court that it is given as it was. */
    private static final class BestPlay {
        /** No MERIT comes so far. */
        private static final int BEYOND = 1000;

        private BestPlay() {
        }

        static int whetherToBow(Court court) {
            if (!court.mayObject()) {
                return NONE;
            }
            boolean zero = court.speaker() == 0;
            int without = worthUnbowed(court, -BEYOND, BEYOND, 0);
            long kept = court.keep();
            court.bow();
            int with = worthUnbowed(court, -BEYOND, BEYOND, 0);
            court.back(kept);
            return (zero ? with > without : with < without) ? 1 : 0;
        }

        static int whatToSay(Court court) {
            boolean zero = court.speaker() == 0;
            int unsaid = court.unsaid();
            int best = zero ? -BEYOND : BEYOND;
            int found = NONE;
            long kept = court.keep();
            for (int p = 0; p < POINTS_MOST; p++) {
                if (has(unsaid, p)) {
                    court.speak(p);
                    int worth = zero ? worth(court, best, BEYOND, 1) : worth(court, -BEYOND, best, 1);
                    court.back(kept);
                    if (zero ? worth > best : worth < best) {
                        best = worth;
                        found = p;
                    }
                }
            }
            return found;
        }

        /** What COUNSEL 0 gets, who may object choosing first. Beyond low and high it need only tell that it is. */
        private static int worth(Court court, int low, int high, int depth) {
            int without = worthUnbowed(court, low, high, depth);
            if (!court.mayObject()) {
                return without;
            }
            boolean zero = court.speaker() == 0;
            if (zero ? without >= high : without <= low) {
                return without;
            }
            long kept = court.keep();
            court.bow();
            int with = zero ? worthUnbowed(court, Math.max(low, without), high, depth)
                    : worthUnbowed(court, low, Math.min(high, without), depth);
            court.back(kept);
            return zero ? Math.max(with, without) : Math.min(with, without);
        }

        /** The same, no objection being made now. */
        private static int worthUnbowed(Court court, int low, int high, int depth) {
            int unsaid = court.unsaid();
            if (unsaid == 0 || depth >= POINTS_MOST) {
                return court.worthForCounselZero();
            }
            boolean zero = court.speaker() == 0;
            int best = zero ? -BEYOND : BEYOND;
            int least = low;
            int most = high;
            long kept = court.keep();
            for (int p = 0; p < POINTS_MOST && least < most; p++) {
                if (has(unsaid, p)) {
                    court.speak(p);
                    int worth = worth(court, least, most, depth + 1);
                    court.back(kept);
                    best = zero ? Math.max(best, worth) : Math.min(best, worth);
                    least = zero ? Math.max(least, best) : least;
                    most = zero ? most : Math.min(most, best);
                }
            }
            return best;
        }
    }

    /** POINTS said by numbers, in a court that is given up to it. */
    private static final class Hearing {
        private Hearing() {
        }

        static int proofFor(Court court, int chair) {
            long start = court.keep();
            int unsaid = court.unsaid();
            int best = NONE;
            for (int set = 0; set <= unsaid; set++) {
                if ((set & ~unsaid) == 0 && (best == NONE || Integer.bitCount(set) < Integer.bitCount(best))) {
                    court.back(start);
                    speakAll(court, set);
                    if (chair == 0 ? court.merit > 0 : court.merit < 0) {
                        best = set;
                    }
                }
            }
            return best;
        }

        private static void speakAll(Court court, int set) {
            for (int p = 0; p < POINTS_MOST; p++) {
                if (has(set, p)) {
                    court.speak(p);
                }
            }
        }

        /** Whether all of these objections could be made. */
        static boolean bowsTo(Court court, int set) {
            int unsaid = court.unsaid();
            for (int p = 0; p < POINTS_MOST; p++) {
                if (has(unsaid, p)) {
                    court.speak(p);
                    if (has(set, p)) {
                        if (!court.mayObject()) {
                            return false;
                        }
                        court.bow();
                    }
                }
            }
            return true;
        }

        /** By how many of 10 for each POINT it comes to just these objections, by c of 10 for each. */
        static long weightOf(Court court, int set, int c) {
            int unsaid = court.unsaid();
            long weight = 1;
            for (int p = 0; p < POINTS_MOST; p++) {
                if (has(unsaid, p)) {
                    court.speak(p);
                    boolean may = court.mayObject();
                    if (has(set, p)) {
                        court.bow();
                        weight *= may ? c : 0;
                    } else {
                        weight *= may ? TENTHS - c : TENTHS;
                    }
                }
            }
            return weight;
        }

        /** The X that the day leaves behind. */
        static long dayBy(Court court, long before) {
            long x = before;
            int unsaid = court.unsaid();
            for (int p = 0; p < POINTS_MOST; p++) {
                if (has(unsaid, p)) {
                    x = (x * 1103515245L + 12345L) % 2147483648L;
                    court.speak(p);
                    if (x / 65536 % 2 == 1) {
                        court.bow();
                    }
                }
            }
            return x;
        }
    }

    /** Two who would settle. */
    private static final class Peace {
        private Peace() {
        }

        static boolean rests(int i, int j, int worth) {
            for (int other = 0; other < OFFERS; other++) {
                if (gain(other, j, worth) > gain(i, j, worth) || gain(other, i, -worth) > gain(j, i, -worth)) {
                    return false;
                }
            }
            return true;
        }

        private static int gain(int own, int others, int withoutPeace) {
            return own + others >= OFFERS ? withoutPeace : PEACE + others - own;
        }
    }

    /** THE TEXT, and the TOKEN in it that is looked at. */
    private static final class Text {
        static final int END = 0;
        static final int WORD = 1;
        static final int NUMBER = 2;
        static final int SEMICOLON = 3;
        static final int OTHER = 4;
        private static final int BLANK = 5;

        final int[] bytes = new int[TEXT_MOST];
        int length;
        int token;
        /** Where the TOKEN begins; behind the last one it is the length, as a FAULT there is told. */
        int start;
        int value;
        private int end;

        void append(int c) {
            if (length < TEXT_MOST) {
                bytes[length] = c;
                length++;
            }
        }

        void rewind() {
            token = END;
            start = 0;
            end = 0;
        }

        void next() {
            start = end;
            while (start < length && kindAt(start) == BLANK) {
                start++;
            }
            token = kindAt(start);
            end = token == END ? start : start + 1;
            while (end < length && (token == WORD || token == NUMBER) && kindAt(end) == token) {
                end++;
            }
            if (token == NUMBER) {
                takeNumber();
            }
        }

        private void takeNumber() {
            if (end - start > 2) {
                token = OTHER;
                return;
            }
            value = 0;
            for (int at = start; at < end; at++) {
                value = 10 * value + byteAt(at) - '0';
            }
        }

        /** What a byte may be part of. */
        private int kindAt(int at) {
            if (at >= length) {
                return END;
            }
            int c = byteAt(at);
            if (c >= 'a' && c <= 'z') {
                return WORD;
            }
            if (c >= '0' && c <= '9') {
                return NUMBER;
            }
            return c == ';' ? SEMICOLON : c == ' ' ? BLANK : OTHER;
        }

        private int byteAt(int at) {
            return 0 <= at && at < length && at < TEXT_MOST ? bytes[at] : NONE;
        }

        boolean tokenIs(String word) {
            if (token != WORD || end - start != word.length()) {
                return false;
            }
            for (int i = 0; i < word.length(); i++) {
                if (byteAt(start + i) != word.charAt(i)) {
                    return false;
                }
            }
            return true;
        }
    }

    /** Reads THE TEXT; where it stops at a FAULT, the TOKEN that is looked at is the one that can not stand there. */
    private static final class Clerk {
        final Text text = new Text();
        /** What was read so far: a FAULT must leave all else as it was. */
        final Court court = new Court();

        /** How many ITEMS; NONE: a FAULT. */
        int readAll() {
            text.rewind();
            text.next();
            int items = 0;
            // No ITEM is shorter than a byte.
            while (items <= TEXT_MOST && (items == 0 || text.token != Text.END)) {
                if (!readItem(items == 0)) {
                    return NONE;
                }
                text.next();
                items++;
            }
            return items;
        }

        private boolean readItem(boolean first) {
            if (first) {
                return text.tokenIs("case") && readCase();
            }
            if (text.tokenIs("bows")) {
                return readBows();
            }
            if (text.tokenIs("point")) {
                return readPoint();
            }
            if (text.tokenIs("say")) {
                return readSaying();
            }
            return text.tokenIs("object") && readObjecting();
        }

        private boolean readCase() {
            if (!numberWithin(0, KIND_MOST)) {
                return false;
            }
            int one = text.value;
            if (!numberWithin(0, KIND_MOST)) {
                return false;
            }
            court.begin(one, text.value);
            return semicolon();
        }

        private boolean readBows() {
            if (!numberWithin(0, 1)) {
                return false;
            }
            int i = text.value;
            if (!numberWithin(0, BOWS_MOST)) {
                return false;
            }
            if (isCounsel(i)) {
                court.bowsLeft[i] = text.value;
            }
            return semicolon();
        }

        private boolean readPoint() {
            if (!court.hasRoom() || !numberWithin(0, KIND_MOST)) {
                return false;
            }
            int kind = text.value;
            if (!numberWithin(1, STRENGTH_MOST)) {
                return false;
            }
            int strength = text.value;
            if (!numberWithin(0, GROUNDS_MOST)) {
                return false;
            }
            court.add(kind, strength, text.value);
            return semicolon();
        }

        private boolean readSaying() {
            if (!numberWithin(0, court.points - 1) || has(court.said, text.value)) {
                return false;
            }
            court.speak(text.value);
            return semicolon();
        }

        private boolean readObjecting() {
            if (!court.mayObject()) {
                return false;
            }
            court.bow();
            return semicolon();
        }

        private boolean numberWithin(int least, int most) {
            text.next();
            return text.token == Text.NUMBER && within(least, text.value, most);
        }

        private boolean semicolon() {
            text.next();
            return text.token == Text.SEMICOLON;
        }
    }
}
