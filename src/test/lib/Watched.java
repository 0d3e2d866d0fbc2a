import java.util.ArrayList;
import java.util.Arrays;
import java.util.List;

/**
 * A SoldWeather whose calls are written down, so that they can be done again on a new object without the asking and
 * the refused ones: as those change nothing, both objects must answer alike from then on.
 */
final class Watched {
    private static final int MOST_CALLS = 512;
    private static final String NO_WORTH = "gift 0";

    private record Call(String name, int[] args, long answer) {
        boolean changes() {
            switch (name) {
                case "act": case "image":
                    return true;
                case "valley":
                    return answer != SoldWeather.FULL;
                case "feed": case "fortune": case "person": case "row": case "go": case "beside": case "book": case "undo":
                    return answer >= 0;
                default:
                    return false;
            }
        }
    }

    private static String last = "";

    private final SoldWeather x = new SoldWeather();
    private final List<Call> calls = new ArrayList<>();
    // What differs from the object without the asking and the refused calls; empty: nothing.
    private String difference = "";
    private SoldWeather twin;

    static String lastCall() {
        return last;
    }

    private static long answer(SoldWeather x, String name, int... a) {
        switch (name) {
            case "feed": return x.feed(a[0]);
            case "valley": return x.valley();
            case "told": return x.told(a[0]);
            case "fortune": return x.fortune(a[0]);
            case "person": return x.person(a[0], a[1], a[2]);
            case "row": return x.row(a[0], a[1], a[2]);
            case "of": return x.of(a[0], a[1]);
            case "go": return x.go();
            case "sold": return x.sold(a[0]);
            case "run": return x.run(a[0], a[1]);
            case "best": return x.best(a[0], a[1]);
            case "truly": return x.truly(a[0], a[1]);
            case "harm": return x.harm(a[0]);
            case "leagues": return x.leagues(a[0]);
            case "beside": return x.beside(a[0]);
            case "spill": return x.spill(a[0], a[1]);
            case "poor": return x.poor(a[0], a[1]);
            case "worse": return x.worse(a[0]);
            case "book": return x.book(a[0]);
            case "looked": return x.looked();
            case "act": return x.act(a[0], a[1], a[2]);
            case "trace": return x.trace(a[0]);
            case "as": return x.as(a[0], a[1]);
            case "image": return x.image();
            case "undo": return x.undo();
            case "count": return x.count(a[0]);
            default: throw new IllegalArgumentException(name);
        }
    }

    private long call(String name, int... args) {
        long answer = answer(x, name, args);
        calls.add(new Call(name, args, answer));
        last = text(name, args);
        return answer;
    }

    private static String text(String name, int[] args) {
        String all = Arrays.toString(args);
        return name + "(" + all.substring(1, all.length() - 1) + ")";
    }

    int feed(int sign) {
        return (int) call("feed", sign);
    }

    int valley() {
        return (int) call("valley");
    }

    int told(int what) {
        return (int) call("told", what);
    }

    int fortune(int weather) {
        return (int) call("fortune", weather);
    }

    int person(int kind, int v, int purse) {
        return (int) call("person", kind, v, purse);
    }

    int row(int person, int weather, int n) {
        return (int) call("row", person, weather, n);
    }

    int of(int person, int what) {
        return (int) call("of", person, what);
    }

    int go() {
        return (int) call("go");
    }

    int sold(int what) {
        return (int) call("sold", what);
    }

    int run(int n, int what) {
        return (int) call("run", n, what);
    }

    int best(int n, int k) {
        return (int) call("best", n, k);
    }

    int truly(int person, int what) {
        return (int) call("truly", person, what);
    }

    int harm(int person) {
        return (int) call("harm", person);
    }

    int leagues(int what) {
        return (int) call("leagues", what);
    }

    int beside(int weather) {
        return (int) call("beside", weather);
    }

    int spill(int m, int n) {
        return (int) call("spill", m, n);
    }

    int poor(int n, int what) {
        return (int) call("poor", n, what);
    }

    long worse(int n) {
        return call("worse", n);
    }

    int book(int weather) {
        return (int) call("book", weather);
    }

    int looked() {
        return (int) call("looked");
    }

    int act(int person, int act, int x) {
        return (int) call("act", person, act, x);
    }

    int trace(int i) {
        return (int) call("trace", i);
    }

    int as(int person, int k) {
        return (int) call("as", person, k);
    }

    int image() {
        return (int) call("image");
    }

    int undo() {
        return (int) call("undo");
    }

    int count(int what) {
        return (int) call("count", what);
    }

    /** The first answer that is another one without the asking and the refused calls; empty: there is none. */
    String differenceOfTwin() {
        twin = new SoldWeather();
        int done = calls.size();
        for (int i = 0; i < done; i++) {
            Call c = calls.get(i);
            if (c.changes()) {
                compare(c.name, c.args, c.answer, answer(twin, c.name, c.args));
            }
        }
        int people = x.count(0);
        askAll(people);
        askRows();
        changeAll(people);
        askAll(people);
        if (calls.size() > MOST_CALLS) {
            return "an object is used for " + calls.size() + " calls";
        }
        return difference;
    }

    private void compare(String name, int[] args, long got, long want) {
        if (got != want && difference.isEmpty()) {
            difference = text(name, args) + " answers " + got + ", and " + want
                + " without the calls that may change nothing";
        }
    }

    private void both(String name, int... args) {
        compare(name, args, call(name, args), answer(twin, name, args));
    }

    private void askAll(int people) {
        for (int i = 0; i < 7; i++) {
            both("count", i);
            both("trace", i);
        }
        for (int what = 0; what < 5; what++) {
            both("told", what);
        }
        for (int p = 0; p < people; p++) {
            both("of", p, 0);
            both("of", p, 1);
            both("of", p, 2);
            both("of", p, 10 + p % 4);
            both("of", p, 20 + p % 4);
            both("run", 40, 10 + p);
        }
        for (int what = 0; what < 3; what++) {
            both("run", 40, what);
        }
        both("best", 8, -1);
        both("spill", 40, 99);
        both("worse", 40);
        both("looked");
    }

    /** What the row of the valley beside tells for each DAY, and FORTUNE's turns, if nobody bids. */
    private void askRows() {
        for (int n = 1; n <= 12; n++) {
            both("run", n, 0);
        }
        for (int n = 1; n <= 20; n += 2) {
            both("spill", n, 1);
        }
    }

    private void changeAll(int people) {
        both("valley");
        both("told", 0);
        both("told", 1);
        for (int p = 0; p < people; p++) {
            for (int w = 0; w < 4; w++) {
                both("row", p, w, 0);
            }
        }
        for (int i = 0; i < NO_WORTH.length(); i++) {
            both("feed", NO_WORTH.charAt(i));
        }
        both("valley");
        for (int n = 1; n <= 12; n++) {
            both("run", n, 0);
        }
        for (int w = 0; w < 4; w++) {
            both("fortune", -1);
            both("fortune", w);
            both("looked");
        }
        both("go");
        both("undo");
    }
}
