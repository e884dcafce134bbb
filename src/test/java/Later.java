import java.util.ArrayList;
import java.util.List;
import java.util.function.Supplier;
import java.util.function.ToLongFunction;

/**
 * What later calls show of an object: all that it tells, and all that it answers to calls that change
 * it. Each group of calls gets an object made anew, because none is used for more than 512 calls.
 */
final class Later {
    private static final int GROUPS = 10;
    private static final int LAST_HOUR = 1000000;

    private final List<String> shown;
    private final MaterialBars x;

    private Later(MaterialBars x, List<String> shown) {
        this.x = x;
        this.shown = shown;
    }

    static List<String> shows(Supplier<MaterialBars> maker) {
        List<String> shown = new ArrayList<>();
        for (int group = 0; group < GROUPS; group++) {
            new Later(maker.get(), shown).ask(group);
        }
        return shown;
    }

    private void ask(int group) {
        switch (group) {
            case 0:
                countsAndPlanAndGoods();
                break;
            case 1:
                rows(0);
                rows(1);
                break;
            case 2:
                uses();
                break;
            case 3:
                rightsAndTrials();
                break;
            case 4:
                reasons();
                break;
            case 5:
                thePad();
                break;
            case 6:
                objectsAndParts();
                break;
            case 7:
                shelves();
                break;
            case 8:
                steps();
                break;
            default:
                plans();
        }
    }

    private void tell(String what, ToLongFunction<MaterialBars> call) {
        shown.add(what + " " + Checks.answerOf(call, x));
    }

    private void countsAndPlanAndGoods() {
        for (int k = 0; k < 5; k++) {
            int what = k;
            tell("count(" + what + ")", y -> y.count(what));
        }
        for (int k = 0; k < 10; k++) {
            int place = k;
            tell("step(" + place + ")", y -> y.step(place));
        }
        for (int k = 0; k < 48; k++) {
            int good = k / 4;
            int what = k % 4;
            tell("about(" + good + ", " + what + ")", y -> y.about(good, what));
        }
    }

    private void rows(int object) {
        tell("row(" + object + ", -1, 0)", y -> y.row(object, -1, 0));
        for (int k = 0; k < 120; k++) {
            int place = k / 4;
            int what = k % 4;
            tell("row(" + object + ", " + place + ", " + what + ")", y -> y.row(object, place, what));
        }
    }

    private void uses() {
        for (int k = 0; k < 144; k++) {
            int method = k / 12;
            int good = k % 12;
            tell("uses(" + method + ", " + good + ")", y -> y.uses(method, good));
        }
    }

    private void rightsAndTrials() {
        for (int k = 0; k < 96; k++) {
            int person = k / 12;
            int method = k % 12;
            tell("right(" + person + ", " + method + ", true)", y -> y.right(person, method, true) ? 1 : 0);
        }
        for (int k = 0; k < 120; k++) {
            int method = k / 10;
            int material = k % 10;
            tell("trial(" + method + ", " + material + ", true)", y -> y.trial(method, material, true) ? 1 : 0);
        }
    }

    private void reasons() {
        for (int k = 0; k < 240; k++) {
            int object = k / 24;
            int method = k / 2 % 12;
            int hour = k % 2 == 0 ? 0 : LAST_HOUR;
            tell("reason(" + object + ", " + method + ", 0, " + hour + ")", y -> y.reason(object, method, 0, hour));
        }
    }

    /** The signs of the pad show themselves by the method that they become. */
    private void thePad() {
        int method = x.count(1);
        tell("read()", y -> y.read());
        tell("unit(116)", y -> y.unit('t'));
        tell("object()", y -> y.object());
        int object = x.count(2) - 1;
        for (int k = 0; k < 12; k++) {
            int number = k;
            tell("uses(" + method + ", " + number + ")", y -> y.uses(method, number));
            tell("part(" + object + ", " + number + ")", y -> y.part(object, number));
            tell("reason(" + object + ", " + method + ", 0, 0)", y -> y.reason(object, method, 0, 0));
        }
        tell("plan(0, " + (1 << method) + ")", y -> y.plan(0, 1 << method));
    }

    private void objectsAndParts() {
        for (int k = 0; k < 10; k++) {
            int object = k;
            tell("part(" + object + ", 0)", y -> y.part(object, 0));
        }
        for (int k = 0; k < 11; k++) {
            tell("object()", y -> y.object());
        }
        for (int k = 0; k < 10; k++) {
            int object = k;
            tell("part(" + object + ", 9)", y -> y.part(object, 9));
        }
    }

    /** Each good alone on a shelf, then each other one beside it: that shows which are apart. */
    private void shelves() {
        for (int good = 0; good < 12; good++) {
            x.put(good, MaterialBars.NONE);
        }
        for (int first = 0; first < 12; first++) {
            x.put(first, 0);
            for (int other = 0; other < 12; other++) {
                if (other != first) {
                    besideIt(first, other);
                }
            }
            x.put(first, MaterialBars.NONE);
        }
    }

    private void besideIt(int first, int other) {
        tell("put(" + other + ", 0) beside " + first, y -> y.put(other, 0));
        x.put(other, MaterialBars.NONE);
    }

    /** At the hour of the latest row, so that an hour kept too high would be refused. */
    private void steps() {
        int objects = x.count(2);
        int methods = x.count(1);
        for (int object = 0; object < objects; object++) {
            int rows = x.row(object, -1, 0);
            int hour = rows == 0 ? 0 : x.row(object, rows - 1, 1);
            for (int method = 0; method < methods; method++) {
                step(object, method, hour);
            }
        }
        tell("count(3)", y -> y.count(3));
        for (int k = 0; k < 12; k++) {
            int good = k;
            tell("about(" + good + ", 0) behind the steps", y -> y.about(good, 0));
        }
    }

    private void step(int object, int method, int hour) {
        tell("done(" + object + ", " + method + ", 0, 1, " + hour + ")", y -> y.done(object, method, 0, 1, hour));
    }

    private void plans() {
        for (int k = 0; k < 24; k++) {
            int object = k / 12;
            int method = k % 12;
            tell("plan(" + object + ", " + (1 << method) + ")", y -> y.plan(object, 1 << method));
            tell("step(0)", y -> y.step(0));
        }
    }
}
