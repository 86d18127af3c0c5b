import java.util.ArrayList;
import java.util.List;

/**
 * Answers looked at one by one, and refused calls on one of two objects that were led alike: all else that can be asked of both must
 * stay alike, and STATUS tell one refusal more, of the one reason.
 */
final class Twins {
    static final int BAD = 0;
    static final int NO = 1;
    static final int FULL = 2;

    interface Story {
        void tell(SidesChange x);
    }

    interface Call {
        long on(SidesChange x);
    }

    interface NumberCall {
        long on(SidesChange x, int n);
    }

    private final String test;
    private String sentence = "";
    private int asked;
    private int wrong;

    Twins(String test) {
        this.test = test;
    }

    /** The document's words that the next answers are for. */
    void sentence(String words) {
        sentence = words;
    }

    void due(String call, long got, long want) {
        asked++;
        if (got != want) {
            wrong++;
            System.out.println("\"" + sentence + "\": " + call + " answered " + got + ", due is " + want);
        }
    }

    void end() {
        System.out.println(test + ": " + asked + " answers, " + wrong + " not as due");
        if (wrong != 0) {
            System.exit(1);
        }
    }

    static SidesChange told(Story story) {
        SidesChange x = new SidesChange();
        story.tell(x);
        return x;
    }

    static void write(SidesChange x, String text) {
        x.clear();
        for (int i = 0; i < text.length(); i++) {
            x.type(text.charAt(i));
        }
    }

    /** The call is refused by this reason alone and changes nothing but STATUS. */
    void refuses(Story story, String name, Call call, long want, int reason) {
        SidesChange without = told(story);
        SidesChange with = told(story);
        due(name, call.on(with), want);
        for (int what = 0; what <= 2; what++) {
            due("status(" + what + ") behind " + name, with.status(what), without.status(what) + (what == reason ? 1 : 0));
        }
        alike(name, without, with);
    }

    /** The call answers so, is no refusal and changes nothing at all. */
    void asks(Story story, String name, Call call, long want) {
        SidesChange without = told(story);
        SidesChange with = told(story);
        due(name, call.on(with), want);
        sameStatus(name, without, with);
        alike(name, without, with);
    }

    /** The call answers so and is no refusal. */
    SidesChange takes(Story story, String name, Call call, long want) {
        SidesChange without = told(story);
        SidesChange with = told(story);
        due(name, call.on(with), want);
        sameStatus(name, without, with);
        return with;
    }

    /** All numbers from least to most are taken, those on both sides beyond them are BAD. */
    void within(Story story, String name, NumberCall call, int least, int most, long refusal) {
        SidesChange without = told(story);
        for (int n = least; n <= most; n++) {
            if (n == least + 200 && n < most - 200) {
                n = most - 200;
            }
            SidesChange with = told(story);
            call.on(with, n);
            sameStatus(name + ", n = " + n, without, with);
        }
        int[] beyond = {least - 1, most + 1, least - 256, most + 256, least - 65536, most + 65536, Integer.MIN_VALUE,
            Integer.MAX_VALUE};
        for (int n : beyond) {
            refuses(story, name + ", n = " + n, x -> call.on(x, n), refusal, BAD);
        }
    }

    private void sameStatus(String name, SidesChange without, SidesChange with) {
        for (int what = 0; what <= 2; what++) {
            due("status(" + what + ") behind " + name, with.status(what), without.status(what));
        }
    }

    void alike(String name, SidesChange one, SidesChange other) {
        List<String> names = new ArrayList<>();
        List<Long> want = new ArrayList<>();
        List<Long> got = new ArrayList<>();
        allOf(one, names, want);
        names.clear();
        allOf(other, names, got);
        due("how much can be asked behind " + name, got.size(), want.size());
        for (int i = 0; i < names.size() && i < want.size(); i++) {
            due(names.get(i) + " behind " + name, got.get(i), want.get(i));
        }
    }

    /** All that an object answers but STATUS; it is used up by that, down to what may be undone, in its IMAGES and THE TEXT. */
    private static void allOf(SidesChange x, List<String> names, List<Long> answers) {
        allNow(x, names, answers);
        undoAll(x, names, answers);
        for (int i = 0; i <= 1; i++) {
            put("from(" + i + ")", x.from(i), names, answers);
            put("digest()", x.digest(), names, answers);
            undoAll(x, names, answers);
        }
        put("read()", x.read(), names, answers);
        put("digest()", x.digest(), names, answers);
        undoAll(x, names, answers);
    }

    private static void allNow(SidesChange x, List<String> names, List<Long> answers) {
        put("digest()", x.digest(), names, answers);
        for (int what = 0; what <= 7; what++) {
            put("count(" + what + ")", x.count(what), names, answers);
        }
        for (int what = 0; what <= 5; what++) {
            put("now(" + what + ")", x.now(what), names, answers);
        }
        for (int p = 0; p <= 5; p++) {
            for (int what = 0; what <= 3; what++) {
                put("of(" + p + ", " + what + ")", x.of(p, what), names, answers);
            }
            put("moves(" + p + ")", x.moves(p), names, answers);
            put("is(" + p + ")", x.is(p), names, answers);
            put("look(" + p + ")", x.look(p), names, answers);
        }
        for (int i = 0; i <= 1; i++) {
            for (int what = 0; what <= 2; what++) {
                put("about(" + i + ", " + what + ")", x.about(i, what), names, answers);
            }
            put("kinds(" + i + ")", x.kinds(i), names, answers);
            put("ask(" + i + ")", x.ask(i), names, answers);
            put("part(" + i + ")", x.part(i), names, answers);
            put("proof(" + i + ")", x.proof(i), names, answers);
        }
        for (int what = 0; what <= 2; what++) {
            put("play(" + what + ")", x.play(what), names, answers);
            put("bowed(" + what + ")", x.bowed(what), names, answers);
        }
        put("settle(-1)", x.settle(-1), names, answers);
        put("days(12345, 20)", x.days(12345, 20), names, answers);
    }

    private static void undoAll(SidesChange x, List<String> names, List<Long> answers) {
        int may = x.count(6);
        for (int i = 0; i <= may; i++) {
            put("undo() number " + i, x.undo(), names, answers);
            put("digest() behind undo() number " + i, x.digest(), names, answers);
        }
    }

    private static void put(String name, long answer, List<String> names, List<Long> answers) {
        names.add(name);
        answers.add(answer);
    }
}
