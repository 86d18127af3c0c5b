import java.util.ArrayDeque;
import java.util.ArrayList;
import java.util.Arrays;
import java.util.Deque;
import java.util.List;
import java.util.Random;
import java.util.TreeMap;
import java.util.regex.Matcher;
import java.util.regex.Pattern;

/**
 * Random runs of calls on the class and on a second telling of the document, written apart from it: plain objects, whole copies,
 * no cuts in the search. Every answer, the digest behind every call and STATUS must agree.
 */
public final class ModelTest {
    private static final int RUNS = 1500;
    private static final int CALLS = 200;
    private static int wrong = 0;
    private static long asked = 0;
    private static final StringBuilder LOG = new StringBuilder();

    public static void main(String[] args) {
        int runs = args.length > 0 ? Integer.parseInt(args[0]) : RUNS;
        for (int run = 0; run < runs && wrong < 5; run++) {
            run(run);
        }
        System.out.println("ModelTest: " + asked + " answers, " + wrong + " not as due");
        if (wrong != 0) {
            System.exit(1);
        }
    }

    private static void run(long seed) {
        Random random = new Random(seed);
        SidesChange real = new SidesChange();
        Model model = new Model();
        LOG.setLength(0);
        if (seed % 10 == 0) {
            fullCase(seed, random, real, model);
        }
        for (int call = 0; call < CALLS && wrong < 5; call++) {
            step(seed, random, real, model);
            same(seed, "digest()", real.digest(), model.digest());
            for (int what = 0; what <= 2; what++) {
                same(seed, "status", real.status(what), model.refusals[what]);
            }
            same(seed, "now(5)", real.now(5), model.now(5));
        }
    }

    /** The longest search: nothing SAID yet. */
    private static void fullCase(long seed, Random r, SidesChange x, Model m) {
        int one = r.nextInt(6);
        int two = r.nextInt(6);
        same(seed, "suit", x.suit(one, two), m.suit(one, two));
        for (int i = 0; i < 2; i++) {
            int n = r.nextInt(4);
            same(seed, "bows", x.bows(i, n), m.bows(i, n));
        }
        for (int p = 0; p < 6; p++) {
            int kind = r.nextInt(6);
            int strength = 1 + r.nextInt(9);
            int grounds = r.nextInt(4);
            same(seed, "point", x.point(kind, strength, grounds), m.point(kind, strength, grounds));
        }
        LOG.append(" a full case");
        same(seed, "play(0)", x.play(0), m.play(0));
        same(seed, "play(2)", x.play(2), m.play(2));
        int p = r.nextInt(6);
        same(seed, "says", x.says(p), m.says(p));
        for (int what = 0; what <= 2; what++) {
            same(seed, "play(" + what + ")", x.play(what), m.play(what));
        }
    }

    private static void same(long seed, String call, long got, long want) {
        asked++;
        if (got != want) {
            wrong++;
            System.out.println("seed " + seed + ": " + call + " answered " + got + ", due is " + want + " behind" + LOG);
        }
    }

    /** Mostly as told, now and then just beside it. */
    private static int pick(Random random, int least, int most) {
        if (random.nextInt(40) == 0) {
            return random.nextBoolean() ? least - 1 : most + 1;
        }
        return least + random.nextInt(most - least + 1);
    }

    private static void step(long seed, Random r, SidesChange x, Model m) {
        int which = r.nextInt(100);
        int a = 0;
        int b = 0;
        int c = 0;
        int d = 0;
        int e = 0;
        String name;
        long got;
        long want;
        if (which < 2) {
            a = pick(r, 0, 5); b = pick(r, 0, 5); name = "suit"; got = x.suit(a, b); want = m.suit(a, b);
        } else if (which < 6) {
            a = pick(r, 0, 1); b = pick(r, 0, 3); name = "bows"; got = x.bows(a, b); want = m.bows(a, b);
        } else if (which < 13) {
            a = pick(r, 0, 5); b = pick(r, 1, 9); c = pick(r, 0, 3);
            name = "point"; got = x.point(a, b, c); want = m.point(a, b, c);
        } else if (which < 17) {
            String text = text(r);
            name = "read '" + text + "'";
            x.clear();
            m.text = "";
            for (int i = 0; i < text.length(); i++) {
                same(seed, "type", x.type(text.charAt(i)), m.type(text.charAt(i)));
            }
            got = x.read();
            want = m.read();
        } else if (which < 30) {
            a = pick(r, 0, Math.max(0, m.state.points.size() - 1)); name = "says"; got = x.says(a); want = m.says(a);
        } else if (which < 38) {
            name = "objects"; got = x.objects(); want = m.objects();
        } else if (which < 43) {
            name = "undo"; got = x.undo(); want = m.undo();
        } else if (which < 45) {
            a = pick(r, 0, 5); name = "now"; got = x.now(a); want = m.now(a);
        } else if (which < 47) {
            a = pick(r, 0, 5); b = pick(r, 0, 3); name = "of"; got = x.of(a, b); want = m.of(a, b);
        } else if (which < 49) {
            a = pick(r, 0, 1); b = pick(r, 0, 2); name = "about"; got = x.about(a, b); want = m.about(a, b);
        } else if (which < 51) {
            a = pick(r, 0, 5); name = "moves"; got = x.moves(a); want = m.moves(a);
        } else if (which < 55) {
            a = pick(r, 0, 2); name = "play"; got = x.play(a); want = m.play(a);
        } else if (which < 58) {
            a = pick(r, 0, 1); name = "proof"; got = x.proof(a); want = m.proof(a);
        } else if (which < 61) {
            a = r.nextInt(3) == 0 ? pick(r, -99, 99) : m.someEnd(r); name = "ends"; got = x.ends(a); want = m.ends(a);
        } else if (which < 65) {
            a = pick(r, 0, 2); name = "bowed"; got = x.bowed(a); want = m.bowed(a);
        } else if (which < 69) {
            a = pick(r, 0, 5); b = pick(r, 1, 9); c = pick(r, -99, 99); d = pick(r, 0, 9);
            e = r.nextInt(3) == 0 ? pick(r, 0, 40) : Model.moved(r.nextInt(6), b, c, d);
            name = "note"; got = x.note(a, b, c, d, e); want = m.note(a, b, c, d, e);
        } else if (which < 73) {
            a = pick(r, 0, 1); b = pick(r, 0, 40); c = pick(r, 0, 1);
            d = r.nextInt(3) == 0 ? pick(r, -50, 50) : Model.counted(r.nextInt(6), b, c);
            name = "mark"; got = x.mark(a, b, c, d); want = m.mark(a, b, c, d);
        } else if (which < 76) {
            a = pick(r, 0, 2); name = "forget"; got = x.forget(a); want = m.forget(a);
        } else if (which < 78) {
            a = pick(r, 0, 5); name = "is"; got = x.is(a); want = m.is(a);
        } else if (which < 80) {
            a = pick(r, 0, 5); name = "look"; got = x.look(a); want = m.look(a);
        } else if (which < 82) {
            a = pick(r, 0, 1); name = "kinds"; got = x.kinds(a); want = m.kinds(a);
        } else if (which < 84) {
            a = pick(r, 0, 1); name = "ask"; got = x.ask(a); want = m.ask(a);
        } else if (which < 85) {
            a = pick(r, -1, 2); name = "settle"; got = x.settle(a); want = m.settle(a);
        } else if (which < 88) {
            a = pick(r, 0, 10); name = "hearings"; got = x.hearings(a); want = m.hearings(a);
        } else if (which < 90) {
            a = pick(r, 0, 999999); b = pick(r, 0, 60); name = "days"; got = x.days(a, b); want = m.days(a, b);
        } else if (which < 92) {
            a = pick(r, 0, 1); name = "part"; got = x.part(a); want = m.part(a);
        } else if (which < 95) {
            a = pick(r, 0, 1); name = "image"; got = x.image(a); want = m.image(a);
        } else if (which < 97) {
            a = pick(r, 0, 1); name = "from"; got = x.from(a); want = m.from(a);
        } else if (which < 99) {
            a = pick(r, 0, 7); name = "count"; got = x.count(a); want = m.count(a);
        } else {
            a = pick(r, 0, 2); name = "status"; got = x.status(a); want = m.status(a);
        }
        LOG.append(' ').append(name).append('(').append(a).append(',').append(b).append(',').append(c).append(',').append(d)
            .append(',').append(e).append(')');
        same(seed, name, got, want);
    }

    /** A text that is mostly one of a case, at times spoilt. */
    private static String text(Random r) {
        StringBuilder text = new StringBuilder();
        List<String> items = new ArrayList<>();
        items.add("case " + r.nextInt(6) + " " + r.nextInt(6) + ";");
        int points = 0;
        for (int i = r.nextInt(12); i > 0; i--) {
            int kind = r.nextInt(10);
            if (kind < 4) {
                items.add("point " + r.nextInt(6) + " " + (1 + r.nextInt(9)) + " " + r.nextInt(4) + ";");
                points++;
            } else if (kind < 7) {
                items.add("say " + r.nextInt(Math.max(1, points)) + ";");
            } else if (kind < 8) {
                items.add("bows " + r.nextInt(2) + " " + r.nextInt(4) + ";");
            } else {
                items.add("object;");
            }
        }
        for (String item : items) {
            text.append(r.nextInt(8) == 0 ? " " : "").append(item);
        }
        for (int spoils = r.nextInt(4) == 0 ? 1 + r.nextInt(2) : 0; spoils > 0 && text.length() > 0; spoils--) {
            int at = r.nextInt(text.length());
            String bytes = "0123456789;; abceopsy-A\t~";
            char one = bytes.charAt(r.nextInt(bytes.length()));
            switch (r.nextInt(4)) {
                case 0 -> text.setCharAt(at, one);
                case 1 -> text.insert(at, one);
                case 2 -> text.deleteCharAt(at);
                default -> text.setLength(at);
            }
        }
        return text.toString();
    }

    private record Point(int kind, int strength, int grounds, boolean said) {
    }

    private record Counsel(int kind, int bows, int chair) {
    }

    /** A state that is never changed: each turn makes a new one. */
    private record State(List<Counsel> counsel, List<Point> points, int merit, int turn, int last) {
        static State begin(int one, int two) {
            return new State(List.of(new Counsel(one, 1, 0), new Counsel(two, 1, 1)), List.of(), 0, 0, -1);
        }

        State withPoint(int p, Point point) {
            List<Point> next = new ArrayList<>(points);
            if (p == next.size()) {
                next.add(point);
            } else {
                next.set(p, point);
            }
            return new State(counsel, List.copyOf(next), merit, turn, last);
        }

        State withBows(int i, int n) {
            Counsel told = new Counsel(counsel.get(i).kind, n, counsel.get(i).chair);
            return new State(i == 0 ? List.of(told, counsel.get(1)) : List.of(counsel.get(0), told), points, merit, turn, last);
        }

        int counts(int p) {
            Counsel speaker = counsel.get(turn % 2);
            Point point = points.get(p);
            int n = Model.moved(point.kind, point.strength, speaker.chair == 0 ? merit : -merit, turn);
            return Model.counted(speaker.kind, n, speaker.chair);
        }

        State say(int p) {
            int by = counsel.get(turn % 2).chair == 0 ? counts(p) : -counts(p);
            int then = merit + by > 99 ? 99 : merit + by < -99 ? -99 : merit + by;
            Point old = points.get(p);
            State next = withPoint(p, new Point(old.kind, old.strength, old.grounds, true));
            return new State(counsel, next.points, then, turn + 1, p);
        }

        boolean may() {
            return last >= 0 && points.get(last).grounds > 0 && counsel.get(turn % 2).bows > 0;
        }

        State object() {
            Point old = points.get(last);
            State next = withPoint(last, new Point(old.kind, old.strength, old.grounds - 1, true))
                .withBows(turn % 2, counsel.get(turn % 2).bows - 1);
            List<Counsel> changed = new ArrayList<>();
            for (Counsel one : next.counsel) {
                changed.add(new Counsel(one.kind, one.bows, 1 - one.chair));
            }
            return new State(List.copyOf(changed), next.points, merit, turn, -1);
        }

        List<Integer> unsaid() {
            List<Integer> left = new ArrayList<>();
            for (int p = 0; p < points.size(); p++) {
                if (!points.get(p).said) {
                    left.add(p);
                }
            }
            return left;
        }

        int worth() {
            return counsel.get(0).chair == 0 ? merit : -merit;
        }

        boolean zeroWins() {
            return counsel.get(0).chair == (merit > 0 ? 0 : 1);
        }

        int best() {
            int without = bestUnbowed();
            if (!may()) {
                return without;
            }
            int with = object().bestUnbowed();
            return turn % 2 == 0 ? Math.max(without, with) : Math.min(without, with);
        }

        int bestUnbowed() {
            List<Integer> left = unsaid();
            if (left.isEmpty()) {
                return worth();
            }
            int best = turn % 2 == 0 ? Integer.MIN_VALUE : Integer.MAX_VALUE;
            for (int p : left) {
                int one = say(p).best();
                best = turn % 2 == 0 ? Math.max(best, one) : Math.min(best, one);
            }
            return best;
        }
    }

    private record Kept(State state, List<Integer> ends, List<int[]> notes, List<int[]> marks, List<State> past) {
    }

    private static final class Model {
        State state = State.begin(0, 0);
        List<Integer> ends = new ArrayList<>();
        List<int[]> notes = new ArrayList<>();
        List<int[]> marks = new ArrayList<>();
        Deque<State> past = new ArrayDeque<>();
        Kept[] images = new Kept[2];
        String text = "";
        long above = 0;
        long below = 1;
        int[] refusals = new int[3];

        static int moved(int kind, int g, int e, int t) {
            return switch (kind) {
                case 0 -> g;
                case 1 -> g / 2 + g % 2;
                case 2 -> moved(0, g, e, t) * (e < 0 ? 2 : 1);
                case 3 -> moved(1, g, e, t) + t;
                case 4 -> moved(2, g, e, t) + 2;
                default -> moved(0, g, e, t) * (1 - t % 2);
            };
        }

        static int counted(int kind, int n, int c) {
            return switch (kind) {
                case 0 -> n;
                case 1 -> counted(0, n, c) + 2;
                case 2 -> n == 0 ? 0 : counted(0, n, c) - 1;
                case 3 -> counted(1, n, c) * (1 - 2 * c);
                case 4 -> counted(2, n, c) + 3 * (1 - n % 2);
                default -> counted(1, n, c) >> 1;
            };
        }

        int bad(int answer) {
            refusals[0]++;
            return answer;
        }

        int no(int answer) {
            refusals[1]++;
            return answer;
        }

        int full() {
            refusals[2]++;
            return -4;
        }

        static boolean off(int x, int least, int most) {
            return x < least || x > most;
        }

        boolean noPoint(int p) {
            return off(p, 0, state.points.size() - 1);
        }

        int suit(int one, int two) {
            if (off(one, 0, 5) || off(two, 0, 5)) {
                return bad(-2);
            }
            int had = state.points.size();
            begin(State.begin(one, two));
            return had;
        }

        void begin(State next) {
            state = next;
            ends = new ArrayList<>();
            notes = new ArrayList<>();
            marks = new ArrayList<>();
            past = new ArrayDeque<>();
        }

        int bows(int i, int n) {
            if (off(i, 0, 1) || off(n, 0, 3)) {
                return bad(-2);
            }
            int had = state.counsel.get(i).bows;
            state = state.withBows(i, n);
            past.clear();
            return had;
        }

        int point(int kind, int strength, int grounds) {
            if (off(kind, 0, 5) || off(strength, 1, 9) || off(grounds, 0, 3)) {
                return bad(-2);
            }
            if (state.points.size() == 6) {
                return full();
            }
            state = state.withPoint(state.points.size(), new Point(kind, strength, grounds, false));
            past.clear();
            return state.points.size() - 1;
        }

        int type(int c) {
            if (off(c, 0, 127)) {
                return bad(-2);
            }
            if (text.length() == 150) {
                return full();
            }
            text += (char) c;
            return text.length();
        }

        /** Each TOKEN is asked whether it can stand in the ITEM as far as it has come. */
        int read() {
            Matcher tokens = Pattern.compile(" *([a-z]+|[0-9]+|[^ ])", Pattern.DOTALL).matcher(text);
            State told = State.begin(0, 0);
            List<String> item = new ArrayList<>();
            int items = 0;
            while (tokens.find()) {
                item.add(tokens.group(1));
                if (!stands(told, item, items)) {
                    return -10 - tokens.start(1);
                }
                if (tokens.group(1).equals(";")) {
                    told = done(told, item);
                    items++;
                    item.clear();
                }
            }
            if (items == 0 || !item.isEmpty()) {
                return -10 - text.length();
            }
            begin(told);
            return items;
        }

        private static boolean stands(State told, List<String> item, int items) {
            String token = item.get(item.size() - 1);
            int at = item.size() - 1;
            if (at == 0) {
                return switch (token) {
                    case "case" -> items == 0;
                    case "point" -> items > 0 && told.points.size() < 6;
                    case "object" -> items > 0 && told.may();
                    case "bows", "say" -> items > 0;
                    default -> false;
                };
            }
            int[][] bounds = switch (item.get(0)) {
                case "case" -> new int[][] {{0, 5}, {0, 5}};
                case "bows" -> new int[][] {{0, 1}, {0, 3}};
                case "point" -> new int[][] {{0, 5}, {1, 9}, {0, 3}};
                case "say" -> new int[][] {{0, told.points.size() - 1}};
                default -> new int[][] {};
            };
            if (at > bounds.length) {
                return token.equals(";");
            }
            if (!token.matches("[0-9][0-9]?") || off(Integer.parseInt(token), bounds[at - 1][0], bounds[at - 1][1])) {
                return false;
            }
            return !item.get(0).equals("say") || !told.points.get(Integer.parseInt(token)).said;
        }

        private static State done(State told, List<String> item) {
            int[] n = item.stream().filter(t -> t.matches("[0-9]+")).mapToInt(Integer::parseInt).toArray();
            return switch (item.get(0)) {
                case "case" -> State.begin(n[0], n[1]);
                case "bows" -> told.withBows(n[0], n[1]);
                case "point" -> told.withPoint(told.points.size(), new Point(n[0], n[1], n[2], false));
                case "say" -> told.say(n[0]);
                default -> told.object();
            };
        }

        void remember() {
            past.addLast(state);
            if (past.size() > 8) {
                past.removeFirst();
            }
        }

        int says(int p) {
            if (noPoint(p)) {
                return bad(-1000);
            }
            if (state.points.get(p).said) {
                return no(-1001);
            }
            remember();
            state = state.say(p);
            return state.merit;
        }

        int objects() {
            if (!state.may()) {
                return no(-3);
            }
            remember();
            state = state.object();
            return state.counsel.get(0).chair == 0 ? 0 : 1;
        }

        int undo() {
            if (past.isEmpty()) {
                return no(-3);
            }
            state = past.removeLast();
            return state.turn;
        }

        int now(int what) {
            return switch (what) {
                case 0 -> state.merit;
                case 1 -> state.counsel.get(0).chair;
                case 2 -> state.turn;
                case 3 -> state.turn % 2;
                case 4 -> state.may() ? 1 : 0;
                case 5 -> !state.unsaid().isEmpty() ? -1 : state.merit > 0 ? 0 : 1;
                default -> bad(-1000);
            };
        }

        int of(int p, int what) {
            if (noPoint(p) || off(what, 0, 3)) {
                return bad(-2);
            }
            Point point = state.points.get(p);
            return new int[] {point.kind, point.strength, point.grounds, point.said ? 1 : 0}[what];
        }

        int about(int i, int what) {
            if (off(i, 0, 1) || off(what, 0, 2)) {
                return bad(-2);
            }
            Counsel one = state.counsel.get(i);
            return new int[] {one.kind, one.bows, one.chair}[what];
        }

        int moves(int p) {
            if (noPoint(p)) {
                return bad(-1000);
            }
            return state.points.get(p).said ? no(-1001) : state.counts(p);
        }

        int play(int what) {
            if (off(what, 0, 2)) {
                return bad(-1000);
            }
            if (what == 0) {
                return state.best();
            }
            int sign = state.turn % 2 == 0 ? 1 : -1;
            if (what == 1) {
                return !state.may() ? -1 : sign * state.object().bestUnbowed() > sign * state.bestUnbowed() ? 1 : 0;
            }
            TreeMap<Integer, Integer> byWorth = new TreeMap<>();
            for (int p : state.unsaid()) {
                byWorth.putIfAbsent(sign * state.say(p).best(), p);
            }
            return byWorth.isEmpty() ? -1 : byWorth.lastEntry().getValue();
        }

        int proof(int c) {
            if (off(c, 0, 1)) {
                return bad(-2);
            }
            List<Integer> left = state.unsaid();
            for (int size = 0; size <= left.size(); size++) {
                for (int set = 0; set < 64; set++) {
                    if (Integer.bitCount(set) == size && within(set, left)) {
                        State then = state;
                        for (int p : left) {
                            then = (set >> p & 1) == 1 ? then.say(p) : then;
                        }
                        if (c == 0 ? then.merit > 0 : then.merit < 0) {
                            return set;
                        }
                    }
                }
            }
            return -1;
        }

        private static boolean within(int set, List<Integer> left) {
            int rest = set;
            for (int p : left) {
                rest &= ~(1 << p);
            }
            return rest == 0;
        }

        int someEnd(Random random) {
            State then = state;
            for (int p : state.unsaid()) {
                then = then.say(p);
                then = then.may() && random.nextBoolean() ? then.object() : then;
            }
            return then.merit;
        }

        int ends(int x) {
            if (off(x, -99, 99)) {
                return bad(-2);
            }
            if (ends.size() == 4) {
                return full();
            }
            ends.add(x);
            return ends.size();
        }

        int bowed(int what) {
            if (off(what, 0, 2)) {
                return bad(-2);
            }
            List<Integer> sets = new ArrayList<>();
            gather(state, 0, state.unsaid(), sets);
            if (what == 0) {
                return sets.size();
            }
            if (sets.isEmpty()) {
                return what == 1 ? -1 : 0;
            }
            return sets.stream().reduce((s, t) -> what == 1 ? s & t : s | t).get();
        }

        private void gather(State from, int set, List<Integer> left, List<Integer> sets) {
            if (left.isEmpty()) {
                if (ends.stream().allMatch(x -> x == from.merit)) {
                    sets.add(set);
                }
                return;
            }
            int p = left.get(0);
            List<Integer> rest = left.subList(1, left.size());
            State then = from.say(p);
            gather(then, set, rest, sets);
            if (then.may()) {
                gather(then.object(), set | 1 << p, rest, sets);
            }
        }

        int note(int p, int g, int e, int t, int x) {
            if (noPoint(p) || off(g, 1, 9) || off(e, -99, 99) || off(t, 0, 9) || off(x, 0, 40)) {
                return bad(-2);
            }
            if (notes.size() == 6) {
                return full();
            }
            notes.add(new int[] {p, g, e, t, x});
            return notes.size();
        }

        int mark(int i, int n, int c, int x) {
            if (off(i, 0, 1) || off(n, 0, 40) || off(c, 0, 1) || off(x, -50, 50)) {
                return bad(-2);
            }
            if (marks.size() == 6) {
                return full();
            }
            marks.add(new int[] {i, n, c, x});
            return marks.size();
        }

        int forget(int what) {
            if (off(what, 0, 2)) {
                return bad(-2);
            }
            List<?> list = List.of(ends, notes, marks).get(what);
            int had = list.size();
            list.clear();
            return had;
        }

        int is(int p) {
            return noPoint(p) ? bad(-2) : fits(p);
        }

        private int fits(int p) {
            int bits = 0;
            for (int kind = 0; kind < 6; kind++) {
                int k = kind;
                boolean all = notes.stream().filter(n -> n[0] == p).allMatch(n -> moved(k, n[1], n[2], n[3]) == n[4]);
                bits += all ? 1 << kind : 0;
            }
            return bits;
        }

        int look(int p) {
            if (noPoint(p)) {
                return bad(-2);
            }
            int bits = fits(p);
            int fewest = 100;
            int best = -1;
            for (int code = 0; code <= 520; code++) {
                if (code % 100 <= 20 && bits != 0) {
                    int[] alike = new int[60];
                    for (int kind = 0; kind < 6; kind++) {
                        if ((bits >> kind & 1) == 1) {
                            alike[moved(kind, state.points.get(p).strength, code % 100 - 10, code / 100)]++;
                        }
                    }
                    int most = Arrays.stream(alike).max().getAsInt();
                    best = most < fewest ? code : best;
                    fewest = Math.min(most, fewest);
                }
            }
            return best;
        }

        int kinds(int i) {
            return off(i, 0, 1) ? bad(-2) : whats(i);
        }

        private int whats(int i) {
            int bits = 0;
            for (int kind = 0; kind < 6; kind++) {
                int k = kind;
                boolean all = marks.stream().filter(m -> m[0] == i).allMatch(m -> counted(k, m[1], m[2]) == m[3]);
                bits += all ? 1 << kind : 0;
            }
            return bits;
        }

        int ask(int i) {
            if (off(i, 0, 1)) {
                return bad(-2);
            }
            int bits = whats(i);
            int fewest = 100;
            int best = -1;
            for (int code = 0; code <= 140; code++) {
                if (code % 100 <= 40 && bits != 0) {
                    int[] alike = new int[120];
                    for (int kind = 0; kind < 6; kind++) {
                        if ((bits >> kind & 1) == 1) {
                            alike[60 + counted(kind, code % 100, code / 100)]++;
                        }
                    }
                    int most = Arrays.stream(alike).max().getAsInt();
                    best = most < fewest ? code : best;
                    fewest = Math.min(most, fewest);
                }
            }
            return best;
        }

        int settle(int k) {
            if (k < -1) {
                return bad(-10);
            }
            int v = state.best();
            List<Integer> resting = new ArrayList<>();
            for (int i = 0; i < 10; i++) {
                for (int j = 0; j < 10; j++) {
                    boolean rests = true;
                    for (int o = 0; o < 10; o++) {
                        rests &= gains(o, j, v)[0] <= gains(i, j, v)[0] && gains(i, o, v)[1] <= gains(i, j, v)[1];
                    }
                    if (rests) {
                        resting.add(10 * i + j);
                    }
                }
            }
            return k == -1 ? resting.size() : k < resting.size() ? resting.get(k) : -5;
        }

        private static int[] gains(int i, int j, int v) {
            return i + j >= 10 ? new int[] {v, -v} : new int[] {5 + j - i, 5 + i - j};
        }

        int hearings(int c) {
            if (off(c, 0, 10)) {
                return bad(-2);
            }
            List<Integer> left = state.unsaid();
            long over = winning(state, left, c);
            long under = 1;
            for (int i = 0; i < left.size(); i++) {
                under *= 10;
            }
            while (under % 2 == 0 && over % 2 == 0) {
                over /= 2;
                under /= 2;
            }
            while (under % 5 == 0 && over % 5 == 0) {
                over /= 5;
                under /= 5;
            }
            above = over;
            below = over == 0 ? 1 : under;
            return 1;
        }

        private static long winning(State from, List<Integer> left, int c) {
            if (left.isEmpty()) {
                return from.zeroWins() ? 1 : 0;
            }
            State then = from.say(left.get(0));
            List<Integer> rest = left.subList(1, left.size());
            if (!then.may()) {
                return 10 * winning(then, rest, c);
            }
            return (10 - c) * winning(then, rest, c) + c * winning(then.object(), rest, c);
        }

        int days(int seed, int n) {
            if (off(seed, 0, 999999) || off(n, 0, 60)) {
                return bad(-2);
            }
            long x = seed;
            int won = 0;
            for (int day = 0; day < n; day++) {
                State then = state;
                for (int p : state.unsaid()) {
                    x = (x * 1103515245L + 12345L) & (1L << 31) - 1;
                    then = then.say(p);
                    then = (x & 1 << 16) != 0 && then.may() ? then.object() : then;
                }
                won += then.zeroWins() ? 1 : 0;
            }
            return won;
        }

        long part(int what) {
            return what == 0 ? above : what == 1 ? below : bad(-2);
        }

        int image(int i) {
            if (off(i, 0, 1)) {
                return bad(-2);
            }
            images[i] = new Kept(state, List.copyOf(ends), List.copyOf(notes), List.copyOf(marks), List.copyOf(past));
            return 1;
        }

        int from(int i) {
            if (off(i, 0, 1)) {
                return bad(-2);
            }
            if (images[i] == null) {
                return no(-3);
            }
            begin(images[i].state);
            ends.addAll(images[i].ends);
            notes.addAll(images[i].notes);
            marks.addAll(images[i].marks);
            past.addAll(images[i].past);
            return 1;
        }

        int status(int what) {
            return off(what, 0, 2) ? bad(-1) : refusals[what];
        }

        int count(int what) {
            return switch (what) {
                case 0 -> state.points.size();
                case 1 -> state.turn;
                case 2 -> state.points.stream().mapToInt(Point::grounds).sum();
                case 3 -> ends.size();
                case 4 -> notes.size();
                case 5 -> marks.size();
                case 6 -> past.size();
                case 7 -> text.length();
                default -> bad(-2);
            };
        }

        long digest() {
            List<Long> all = new ArrayList<>();
            for (int what = 0; what < 8; what++) {
                all.add((long) count(what));
            }
            for (int what = 0; what < 5; what++) {
                all.add((long) now(what));
            }
            state.counsel.forEach(c -> all.addAll(List.of((long) c.kind, (long) c.bows)));
            state.points.forEach(p -> all.addAll(
                List.of((long) p.kind, (long) p.strength, (long) p.grounds, p.said ? 1L : 0L)));
            ends.forEach(x -> all.add((long) x));
            notes.forEach(n -> Arrays.stream(n).forEach(v -> all.add((long) v)));
            marks.forEach(n -> Arrays.stream(n).forEach(v -> all.add((long) v)));
            all.add(above);
            all.add(below);
            long h = 1597;
            for (long v : all) {
                h = 31 * h + v;
            }
            return h;
        }
    }
}
