import java.io.IOException;
import java.nio.file.Files;
import java.nio.file.Path;
import java.util.ArrayList;
import java.util.List;

/** What all tests of boundary cases share: the promise and its sentence at hand, and what is due by it. */
abstract class Edges {
    static final int NONE = -1, BAD = -2, STATE = -3, FULL = -4;
    static final int FAR_NONE = -10001, FAR_BAD = -10002;
    static final int MIN = Integer.MIN_VALUE, MAX = Integer.MAX_VALUE;

    private record Made(Watched x, int promise, String words) {
    }

    private static final List<Made> made = new ArrayList<>();
    private static final boolean[] tested = new boolean[28];
    private static final String document = document();

    private static int wrong = 0;
    private static int promise = 0;
    private static String words = "";

    private static String document() {
        try {
            return Files.readString(Path.of("../shared/DOC.md"));
        } catch (IOException e) {
            return "";
        }
    }

    private static void tell(String what) {
        wrong++;
        System.out.println("promise " + promise + ", '" + words + "': " + what);
    }

    /** What follows is a case of this sentence; its words are the document's own. */
    static void sentence(int number, String text) {
        promise = number;
        words = text;
        if (!document.isEmpty() && !document.contains(text)) {
            tell("the document has no such words");
        }
    }

    private static void compareTwins() {
        for (Made one : made) {
            String difference = one.x.differenceOfTwin();
            promise = one.promise;
            words = one.words;
            if (!difference.isEmpty()) {
                tell(difference);
            }
        }
    }

    static void due(long got, long want) {
        tested[promise] = true;
        if (got != want) {
            tell(Watched.lastCall() + " answered " + got + ", due is " + want);
        }
    }

    static Watched fresh() {
        Watched x = new Watched();
        made.add(new Made(x, promise, words));
        return x;
    }

    static void feedAll(Watched x, String text) {
        for (int i = 0; i < text.length(); i++) {
            x.feed(text.charAt(i));
        }
    }

    static int read(Watched x, String text) {
        feedAll(x, text);
        return x.valley();
    }

    static Watched in(String valley) {
        Watched x = fresh();
        due(read(x, valley), 0);
        return x;
    }

    static void goDays(Watched x, int days) {
        for (int i = 0; i < days; i++) {
            x.go();
        }
    }

    /** Ends the test, which has cases of the promises from one to another. */
    static void end(int from, int to) {
        compareTwins();
        for (int i = from; i <= to; i++) {
            if (!tested[i]) {
                promise = i;
                words = "";
                tell("nothing tests it");
            }
        }
        System.out.println(wrong == 0 ? "all boundary cases hold" : wrong + " things are not as due");
        if (wrong != 0) {
            System.exit(1);
        }
    }
}
