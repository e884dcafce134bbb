import java.util.ArrayList;
import java.util.HashSet;
import java.util.List;
import java.util.Set;
import java.util.TreeSet;
import java.util.regex.Matcher;
import java.util.regex.Pattern;

/**
 * The document once more, in the way that is nearest to its words and far from the class's own:
 * texts are matched whole, histories are kept and added up, orders are tried one by one.
 */
final class SlowModel {
    private static final Pattern CLAUSE =
            Pattern.compile("u(\\d{1,4})\\*(\\d{1,4})|b(\\d{1,4})|x(\\d{1,4})|a(\\d{1,4}):(\\d{1,4})|t|i");
    /** For each start of a text that can be ended at all, one of these ends it. */
    private static final String[] ENDS = {"", "t", "0", "1", "*1", ":0", "0*1", "0:0"};

    private String pad = "";
    private final List<String> methods = new ArrayList<>();
    private final List<List<Integer>> parts = new ArrayList<>();
    private final List<List<int[]>> rows = new ArrayList<>();
    private final Set<String> rights = new HashSet<>();
    private final Set<String> goodTrials = new HashSet<>();
    private final Set<String> apart = new HashSet<>();
    private final List<List<Integer>> changes = new ArrayList<>();
    private final int[] shelves = new int[12];
    private List<Integer> latestPlan = new ArrayList<>();

    SlowModel() {
        for (int good = 0; good < 12; good++) {
            changes.add(new ArrayList<>());
            shelves[good] = -1;
        }
    }

    private static void index(boolean isThere) {
        if (!isThere) {
            throw new IndexOutOfBoundsException();
        }
    }

    private static boolean in(int x, int bound) {
        return x >= 0 && x < bound;
    }

    int unit(int sign) {
        if (pad.length() == 50) {
            throw new IllegalStateException();
        }
        if (sign < 33 || sign > 126) {
            throw new IllegalArgumentException();
        }
        pad += (char) sign;
        return pad.length();
    }

    static boolean isText(String text) {
        if (text.isEmpty()) {
            return true;
        }
        String[] clauses = text.split(",", -1);
        if (clauses.length > 10) {
            return false;
        }
        for (String clause : clauses) {
            Matcher m = CLAUSE.matcher(clause);
            if (!m.matches() || !isWithin(m)) {
                return false;
            }
        }
        return true;
    }

    private static boolean isWithin(Matcher m) {
        return number(m, 1) <= 11 && number(m, 2) != 0 && number(m, 3) <= 9 && number(m, 4) <= 11 && number(m, 5) <= 11;
    }

    private static int number(Matcher m, int group) {
        return m.group(group) == null ? -1 : Integer.parseInt(m.group(group));
    }

    static boolean isStart(String text) {
        for (String end : ENDS) {
            if (isText(text + end)) {
                return true;
            }
        }
        return false;
    }

    int read() {
        if (methods.size() == 12) {
            throw new IllegalStateException();
        }
        String text = pad;
        pad = "";
        if (isText(text)) {
            methods.add(text);
            return methods.size() - 1;
        }
        int place = 0;
        while (place < text.length() && isStart(text.substring(0, place + 1))) {
            place++;
        }
        return -1 - place;
    }

    /** The numbers of each clause of this kind. */
    private List<int[]> told(int method, char kind) {
        List<int[]> all = new ArrayList<>();
        for (String clause : methods.get(method).split(",")) {
            if (!clause.isEmpty() && clause.charAt(0) == kind) {
                String[] numbers = clause.length() == 1 ? new String[0] : clause.substring(1).split("[*:]");
                int[] values = new int[numbers.length];
                for (int k = 0; k < values.length; k++) {
                    values[k] = Integer.parseInt(numbers[k]);
                }
                all.add(values);
            }
        }
        return all;
    }

    private boolean names(int method, char kind, int number) {
        for (int[] values : told(method, kind)) {
            if (values[0] == number) {
                return true;
            }
        }
        return false;
    }

    int uses(int method, int good) {
        index(in(method, methods.size()) && in(good, 12));
        int sum = 0;
        for (int[] values : told(method, 'u')) {
            sum += values[0] == good ? values[1] : 0;
        }
        return sum;
    }

    int object() {
        if (parts.size() == 10) {
            throw new IllegalStateException();
        }
        parts.add(new ArrayList<>());
        rows.add(new ArrayList<>());
        return parts.size() - 1;
    }

    int part(int object, int material) {
        index(in(object, parts.size()) && in(material, 10));
        if (parts.get(object).size() == 8) {
            throw new IllegalStateException();
        }
        parts.get(object).add(material);
        return parts.get(object).size() - 1;
    }

    private static boolean set(Set<String> all, String key, boolean on) {
        return on ? all.add(key) : all.remove(key);
    }

    boolean right(int person, int method, boolean on) {
        index(in(person, 8) && in(method, methods.size()));
        return set(rights, person + " " + method, on);
    }

    boolean trial(int method, int material, boolean good) {
        index(in(method, methods.size()) && in(material, 10));
        boolean former = goodTrials.contains(method + " " + material);
        set(goodTrials, method + " " + material, good);
        return former;
    }

    /** The latest hour at which it was done; -1 if never. */
    private int latest(int object, int method) {
        int hour = -1;
        for (int[] row : rows.get(object)) {
            hour = row[0] == method ? row[1] : hour;
        }
        return hour;
    }

    int reason(int object, int method, int person, int hour) {
        index(in(object, parts.size()) && in(method, methods.size()) && in(person, 8));
        if (hour < 0 || hour > 1000000) {
            throw new IllegalArgumentException();
        }
        TreeSet<Integer> found = new TreeSet<>();
        for (int k = 0; k < parts.get(object).size(); k++) {
            int material = parts.get(object).get(k);
            if (names(method, 'b', material)) {
                found.add(100 + k);
            }
            if (!told(method, 't').isEmpty() && !goodTrials.contains(method + " " + material)) {
                found.add(400 + material);
            }
        }
        for (int[] values : told(method, 'x')) {
            if (latest(object, values[0]) >= 0) {
                found.add(200 + values[0]);
            }
        }
        for (int[] values : told(method, 'a')) {
            int before = latest(object, values[0]);
            if (before < 0 || hour < before + values[1]) {
                found.add(300 + values[0]);
            }
        }
        for (int good = 0; good < 12; good++) {
            if (about(good, 0) < uses(method, good)) {
                found.add(500 + good);
            }
        }
        if (!rights.contains(person + " " + method)) {
            found.add(600);
        }
        return found.isEmpty() ? 0 : found.first();
    }

    int done(int object, int method, int person, int second, int hour) {
        index(in(object, parts.size()) && in(method, methods.size()) && in(person, 8) && in(second, 8));
        List<int[]> own = rows.get(object);
        if (own.size() == 30) {
            throw new IllegalStateException();
        }
        if (hour < 0 || hour > 1000000 || (!own.isEmpty() && hour < own.get(own.size() - 1)[1])) {
            throw new IllegalArgumentException();
        }
        int reason = reason(object, method, person, hour);
        if (reason != 0) {
            return reason;
        }
        boolean two = !told(method, 'i').isEmpty();
        if (two && (person == second || !rights.contains(second + " " + method))) {
            return 700;
        }
        for (int good = 0; good < 12; good++) {
            changes.get(good).add(-uses(method, good));
        }
        own.add(new int[] {method, hour, person, two ? second : -1});
        return 0;
    }

    int row(int object, int k, int what) {
        index(in(object, parts.size()) && in(what, 4) && (k == -1 || in(k, rows.get(object).size())));
        return k == -1 ? rows.get(object).size() : rows.get(object).get(k)[what];
    }

    int stock(int good, int change) {
        index(in(good, 12));
        if (change < -1000000 || change > 1000000) {
            throw new IllegalArgumentException();
        }
        long then = about(good, 0) + change;
        if (then < 0 || then > 1000000) {
            return -1;
        }
        changes.get(good).add(change);
        return (int) then;
    }

    long about(int good, int what) {
        index(in(good, 12) && in(what, 4));
        if (what == 3) {
            return shelves[good];
        }
        long came = 0;
        long went = 0;
        for (int change : changes.get(good)) {
            came += Math.max(change, 0);
            went += Math.max(-change, 0);
        }
        return what == 0 ? came - went : what == 1 ? came : went;
    }

    boolean apart(int a, int b) {
        index(in(a, 12) && in(b, 12));
        if (a == b || (shelves[a] >= 0 && shelves[a] == shelves[b])) {
            return false;
        }
        apart.add(a + " " + b);
        apart.add(b + " " + a);
        return true;
    }

    int put(int good, int shelf) {
        index(in(good, 12) && (shelf == -1 || in(shelf, 6)));
        for (int other = 0; other < 12; other++) {
            if (shelf != -1 && shelves[other] == shelf && apart.contains(other + " " + good)) {
                return 1 + other;
            }
        }
        shelves[good] = shelf;
        return 0;
    }

    int plan(int object, int set) {
        index(in(object, parts.size()));
        TreeSet<Integer> wanted = new TreeSet<>();
        for (int bit = 0; bit < 32; bit++) {
            if ((set & 1 << bit) != 0) {
                index(bit < methods.size());
                addWithAllAhead(wanted, bit);
            }
        }
        wanted.removeIf(method -> latest(object, method) >= 0);
        if (wanted.size() > 10) {
            return -2;
        }
        List<Integer> order = new ArrayList<>();
        if (!order(object, wanted, order, new HashSet<>())) {
            return -1;
        }
        latestPlan = order;
        return order.size();
    }

    private void addWithAllAhead(Set<Integer> wanted, int method) {
        if (wanted.add(method) && method < methods.size()) {
            for (int[] values : told(method, 'a')) {
                addWithAllAhead(wanted, values[0]);
            }
        }
    }

    /** Tries every order, the lower ones first; sets of steps behind which no order could go on are kept. */
    private boolean order(int object, Set<Integer> wanted, List<Integer> order, Set<Set<Integer>> inVain) {
        if (order.size() == wanted.size()) {
            return true;
        }
        if (inVain.contains(new HashSet<>(order))) {
            return false;
        }
        for (int method : wanted) {
            if (!order.contains(method) && mayFollow(object, order, method)) {
                order.add(method);
                if (order(object, wanted, order, inVain)) {
                    return true;
                }
                order.remove(order.size() - 1);
            }
        }
        inVain.add(new HashSet<>(order));
        return false;
    }

    private boolean mayFollow(int object, List<Integer> order, int method) {
        if (method >= methods.size()) {
            return false;
        }
        for (int material : parts.get(object)) {
            if (names(method, 'b', material)) {
                return false;
            }
        }
        for (int[] values : told(method, 'a')) {
            if (latest(object, values[0]) < 0 && !order.contains(values[0])) {
                return false;
            }
        }
        for (int[] values : told(method, 'x')) {
            if (latest(object, values[0]) >= 0 || order.contains(values[0])) {
                return false;
            }
        }
        return true;
    }

    int step(int k) {
        index(in(k, latestPlan.size()));
        return latestPlan.get(k);
    }

    int count(int what) {
        index(in(what, 5));
        int allRows = 0;
        for (List<int[]> own : rows) {
            allRows += own.size();
        }
        return new int[] {pad.length(), methods.size(), parts.size(), allRows, latestPlan.size()}[what];
    }
}
