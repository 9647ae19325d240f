import java.util.ArrayList;
import java.util.List;
import java.util.function.Supplier;
import java.util.function.ToLongFunction;

/**
 * What the tests of the document's edges share. A test says the sentence first; what fails is told
 * with it. Of what is refused a twin is made that was never asked, and both are told in full.
 */
final class Edge {
    static final int MIN = Integer.MIN_VALUE;
    static final int MAX = Integer.MAX_VALUE;
    static final int BAD = -1, STATE = -2, FULL = -3, NONE = -9, NO = -1000000, NOT_ONE = -5;

    /** A ring of four corners. */
    static final String SQUARE = "c4;s0 1 2;s1 2 3;s2 3 1;s3 0 5;l2 2;l0 1;l3 1;";

    private static final int[] STRAY = {MIN, MIN + 1, -1000000, -256, -100, -64, -33, -32, -10, -9, -5, -4, -3, -2, -1, 0,
        1, 2, 3, 4, 5, 6, 7, 8, 9, 10, 11, 12, 13, 16, 24, 31, 32, 33, 64, 65, 99, 150, 255, 256, 257, 65536, 1000000,
        MAX - 1, MAX};

    private static String sentence = "";
    private static int asked = 0;
    private static int wrong = 0;

    private Edge() { }

    static void says(String words) {
        sentence = words;
    }

    static void due(String call, long got, long want) {
        asked++;
        if (got != want) {
            fails(call + " answered " + got + ", due is " + want);
        }
    }

    private static void fails(String what) {
        wrong++;
        System.out.println("\"" + sentence + "\": " + what);
    }

    /** Says how it went; ends with exit code 1, if anything was wrong. */
    static void end() {
        System.out.println(asked + " things looked at, " + wrong + " are not as due");
        if (wrong != 0 || asked == 0) {
            System.exit(1);
        }
    }

    static void write(FeastMarch x, String text) {
        for (int i = 0; i < text.length(); i++) {
            due("type(" + (int) text.charAt(i) + ") of '" + text + "'", x.type(text.charAt(i)), i + 1);
        }
    }

    static FeastMarch told(String text) {
        FeastMarch x = new FeastMarch();
        write(x, text);
        due("city() of '" + text + "'", x.city(), text.chars().filter(c -> c == ';').count());
        return x;
    }

    /** A march of which something of everything is so: led, shut, seen, planned, kept, traced, typed. */
    static FeastMarch busy(String text) {
        FeastMarch x = told(SQUARE);
        x.leads(2);
        x.saw(0, 3);
        x.plans(1);
        x.plans(0);
        x.keep(0);
        x.leads(0);
        x.keep(1);
        x.shuts(1, 1);
        x.mark(5, 0);
        write(x, text);
        return x;
    }

    static FeastMarch busy() {
        return busy("c2;");
    }

    /** A text with a FAULT: it is told, and nothing changes. */
    static void fault(String text, int place) {
        refused(() -> busy(text), "city() of '" + text + "'", x -> x.city(), -10L - place);
    }

    static void refused(Supplier<FeastMarch> made, String call, ToLongFunction<FeastMarch> asks, long answer) {
        FeastMarch x = made.get();
        due(call, asks.applyAsLong(x), answer);
        same(call + " is refused: nothing changes", x, made.get());
    }

    static void same(String what, FeastMarch x, FeastMarch y) {
        asked++;
        List<String> one = whole(x);
        List<String> other = whole(y);
        for (int i = 0; i < one.size() && i < other.size(); i++) {
            if (!one.get(i).equals(other.get(i))) {
                fails(what + ", but " + one.get(i) + " is not " + other.get(i));
                return;
            }
        }
        if (one.size() != other.size()) {
            fails(what + ", but more can be undone");
        }
    }

    /** Numbers that are none of least .. most. */
    static List<Integer> beyond(int least, int most) {
        List<Integer> all = new ArrayList<>(List.of(least - 1, most + 1));
        for (int n : STRAY) {
            if (n < least || n > most) {
                all.add(n);
            }
        }
        return all;
    }

    /**
     * All that an object can be asked; then it is taken apart: all is undone, both images are taken
     * back and undone, the text is read. (Some 190 calls for the busy one: an object has 512.)
     */
    private static List<String> whole(FeastMarch x) {
        List<String> all = new ArrayList<>();
        for (int i = 0; i <= 6; i++) {
            all.add("count(" + i + ") = " + x.count(i));
        }
        all.add("trace() = " + x.trace());
        for (int s = 0; s < x.count(1); s++) {
            for (int what = 0; what <= 4; what++) {
                all.add("street(" + s + ", " + what + ") = " + x.street(s, what));
            }
        }
        for (int l = 0; l < x.count(2); l++) {
            for (int what = 0; what <= 2; what++) {
                all.add("leader(" + l + ", " + what + ") = " + x.leader(l, what));
            }
        }
        for (int c = 1; c < x.count(0); c++) {
            all.add("far(0, " + c + ") = " + x.far(0, c));
        }
        rows(x, all);
        undone(x, all, "");
        for (int image = 0; image <= 1; image++) {
            all.add("back(" + image + ") = " + x.back(image));
            undone(x, all, " behind back(" + image + ")");
        }
        all.add("city() = " + x.city());
        all.add("count(6) behind city() = " + x.count(6));
        all.add("count(0) behind city() = " + x.count(0));
        return all;
    }

    private static void rows(FeastMarch x, List<String> all) {
        for (int i = -3; i <= 5; i++) {
            all.add("order(" + i + ") = " + x.order(i));
        }
        for (int i = -1; i <= 5; i++) {
            all.add("most(" + i + ") = " + x.most(i));
            all.add("fits(" + i + ") = " + x.fits(i));
        }
        for (int i = 0; i <= 5; i++) {
            all.add("rows(" + i + ") = " + x.rows(i));
        }
        for (int i = 0; i <= 3; i++) {
            all.add("planned(" + i + ") = " + x.planned(i));
        }
        all.add("odds(3, 0) = " + x.odds(3, 0));
        all.add("odds(3, 1) = " + x.odds(3, 1));
    }

    private static void undone(FeastMarch x, List<String> all, String behind) {
        for (int n = 0; n <= 10; n++) {
            for (int i = 0; i <= 5; i++) {
                all.add("now(" + i + ")" + behind + ", " + n + " undone = " + x.now(i));
            }
            int left = x.undo();
            all.add("undo()" + behind + " = " + left);
            if (left < 0) {
                return;
            }
        }
    }
}
