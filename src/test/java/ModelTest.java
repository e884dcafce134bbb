import java.util.function.LongSupplier;

/**
 * Runs of 512 calls on the class and on SlowModel side by side: every answer and every exception has
 * to be the same. The runs are drawn by a fixed row of numbers, so they are the same each time.
 */
public final class ModelTest {
    private static final int RUNS = 1500;
    private static final int CALLS = 512;
    private static final int[] EDGES = {
        Integer.MIN_VALUE, -1000001, -2, -1, 6, 8, 10, 12, 30, 32, 1000001, 1 << 30, Integer.MAX_VALUE
    };
    private static final String SIGNS = "ubxati,*:0123456789";

    private static final Checks CHECKS = new Checks("ModelTest");

    private long seed;
    private int calls = 0;
    private int hour = 0;
    private final int style;
    private final MaterialBars x = new MaterialBars();
    private final SlowModel model = new SlowModel();

    private ModelTest(int run) {
        seed = run * 7919L + 1;
        style = run % 4;
    }

    public static void main(String[] args) {
        for (int run = 0; run < RUNS; run++) {
            new ModelTest(run).play();
        }
        everyShortTextIsJudgedAlike();
        CHECKS.end();
    }

    private int draw(int bound) {
        seed = seed * 6364136223846793005L + 1442695040888963407L;
        return (int) ((seed >>> 33) % bound);
    }

    /** Mostly a number below the bound, now and then one that may be wrong. */
    private int place(int bound) {
        return draw(40) == 0 ? EDGES[draw(EDGES.length)] : draw(bound);
    }

    private int method() {
        int there = model.count(1);
        return there > 0 && draw(10) != 0 ? draw(there) : place(12);
    }

    private int person() {
        return draw(4) == 0 ? place(8) : draw(2);
    }

    private void same(String what, LongSupplier own, LongSupplier models) {
        if (calls < CALLS) {
            calls++;
            CHECKS.due(what, answerOf(own), answerOf(models));
        }
    }

    private static String answerOf(LongSupplier call) {
        try {
            return String.valueOf(call.getAsLong());
        } catch (IndexOutOfBoundsException | IllegalStateException | IllegalArgumentException e) {
            return e.getClass().getSimpleName();
        }
    }

    private void play() {
        int texts = style == 0 ? 3 : 8 + draw(5);
        for (int k = 0; k < texts; k++) {
            tellText(k);
        }
        for (int method = 0; method < model.count(1) && style != 3; method++) {
            right(0, method, true);
            right(1, method, true);
        }
        while (calls < CALLS) {
            callAny();
        }
    }

    private void tellText(int number) {
        String text = style == 3 && draw(3) == 0 ? noise() : text(number);
        if (draw(6) == 0) {
            text = spoilt(text);
        }
        for (int k = 0; k < text.length(); k++) {
            unit(text.charAt(k));
        }
        same("read " + text, x::read, model::read);
    }

    private void unit(int sign) {
        same("unit(" + sign + ")", () -> x.unit(sign), () -> model.unit(sign));
    }

    private String noise() {
        StringBuilder text = new StringBuilder();
        for (int k = draw(12); k > 0; k--) {
            text.append(SIGNS.charAt(draw(SIGNS.length())));
        }
        return text.toString();
    }

    /** The text with a sign more, or one in another's place. */
    private String spoilt(String text) {
        int place = draw(text.length() + 1);
        int rest = Math.min(text.length(), place + draw(2));
        return text.substring(0, place) + SIGNS.charAt(draw(SIGNS.length())) + text.substring(rest);
    }

    private String text(int number) {
        StringBuilder text = new StringBuilder();
        for (int k = draw(style == 2 ? 5 : 3); k > 0; k--) {
            text.append(text.length() == 0 ? "" : ",").append(clause(number));
        }
        return text.toString();
    }

    private String clause(int number) {
        switch (draw(10)) {
            case 0:
            case 1:
                return "u" + draw(12) + "*" + (1 + draw(draw(3) == 0 ? 9999 : 9));
            case 2:
                return "b" + draw(10);
            case 3:
            case 6:
                return "x" + draw(12);
            case 4:
                return "t";
            case 5:
                return "i";
            default:
                // Mostly an earlier method, so that steps can be done at all.
                return "a" + (number > 0 && draw(5) != 0 ? draw(number) : draw(12)) + ":" + draw(draw(3) == 0 ? 50 : 3);
        }
    }

    private void callAny() {
        switch (draw(20)) {
            case 0:
                same("object()", x::object, model::object);
                break;
            case 1:
                part(place(3), style == 0 ? draw(3) : place(10));
                break;
            case 2:
                right(person(), method(), draw(5) != 0);
                break;
            case 5:
            case 6:
                trial(method(), place(10), draw(5) != 0);
                break;
            case 7:
                reason(place(3), method(), person(), draw(6) == 0 ? place(1000001) : hour + draw(10));
                break;
            case 3:
            case 4:
            case 8:
            case 9:
            case 10:
                done(draw(2) == 0 ? 0 : place(3), method(), person(), person());
                break;
            case 11:
                row(place(3), draw(3) == 0 ? -1 : place(6), place(4));
                break;
            case 12:
            case 13:
                stock(place(12), draw(20) == 0 ? place(1000001) : draw(4000) - 1000);
                break;
            case 14:
                about(place(12), place(4));
                break;
            case 15:
                shelve(place(12), place(12), draw(6) == 0 ? -1 : place(style == 0 ? 2 : 6));
                break;
            case 16:
            case 17:
                plan(place(3), draw(10) == 0 ? place(1 << 13) : wantedSet());
                break;
            case 18:
                uses(method(), place(12));
                break;
            default:
                if (draw(4) == 0) {
                    unit(draw(10) == 0 ? place(128) : SIGNS.charAt(draw(SIGNS.length())));
                } else if (draw(6) == 0) {
                    tellText(draw(12));
                } else {
                    count(draw(20) == 0 ? place(6) : draw(5));
                }
        }
    }

    private int wantedSet() {
        int there = model.count(1);
        int set = draw(1 << there);
        return draw(2) == 0 ? set & draw(1 << there) : draw(4) == 0 ? (1 << there) - 1 : set;
    }

    private void part(int object, int material) {
        same("part", () -> x.part(object, material), () -> model.part(object, material));
    }

    private void right(int person, int method, boolean on) {
        same("right", () -> x.right(person, method, on) ? 1 : 0, () -> model.right(person, method, on) ? 1 : 0);
    }

    private void trial(int method, int material, boolean good) {
        same("trial", () -> x.trial(method, material, good) ? 1 : 0, () -> model.trial(method, material, good) ? 1 : 0);
    }

    private void reason(int object, int method, int person, int at) {
        same("reason", () -> x.reason(object, method, person, at), () -> model.reason(object, method, person, at));
    }

    private void done(int object, int method, int person, int second) {
        if (draw(6) == 0) {
            hour += draw(draw(10) == 0 ? 5000 : 8);
        }
        int at = draw(60) == 0 ? EDGES[draw(EDGES.length)] : draw(8) == 0 ? hour - 3 : hour;
        same("done", () -> x.done(object, method, person, second, at),
                () -> model.done(object, method, person, second, at));
    }

    private void row(int object, int k, int what) {
        same("row", () -> x.row(object, k, what), () -> model.row(object, k, what));
    }

    private void stock(int good, int change) {
        same("stock", () -> x.stock(good, change), () -> model.stock(good, change));
    }

    private void about(int good, int what) {
        same("about", () -> x.about(good, what), () -> model.about(good, what));
    }

    private void shelve(int a, int b, int shelf) {
        if (draw(3) == 0) {
            same("apart", () -> x.apart(a, b) ? 1 : 0, () -> model.apart(a, b) ? 1 : 0);
        } else {
            same("put", () -> x.put(a, shelf), () -> model.put(a, shelf));
        }
    }

    private void plan(int object, int set) {
        same("plan", () -> x.plan(object, set), () -> model.plan(object, set));
        for (int k = 0; k <= model.count(4); k++) {
            int place = k;
            same("step", () -> x.step(place), () -> model.step(place));
        }
    }

    private void uses(int method, int good) {
        same("uses", () -> x.uses(method, good), () -> model.uses(method, good));
    }

    private void count(int what) {
        same("count", () -> x.count(what), () -> model.count(what));
    }

    /** Every text of up to five signs out of a few that stand for all kinds of signs. */
    private static void everyShortTextIsJudgedAlike() {
        String few = "uati,*:012";
        StringBuilder text = new StringBuilder();
        for (int length = 1; length <= 5; length++) {
            int all = (int) Math.pow(few.length(), length);
            for (int number = 0; number < all; number++) {
                text.setLength(0);
                for (int k = 0, rest = number; k < length; k++, rest /= few.length()) {
                    text.append(few.charAt(rest % few.length()));
                }
                judgedAlike(text.toString());
            }
        }
    }

    private static void judgedAlike(String text) {
        MaterialBars x = new MaterialBars();
        SlowModel model = new SlowModel();
        for (int k = 0; k < text.length(); k++) {
            x.unit(text.charAt(k));
            model.unit(text.charAt(k));
        }
        CHECKS.due("read " + text, x.read(), model.read());
    }
}
