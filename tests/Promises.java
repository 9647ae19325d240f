/** Each promise by itself: ordinary calls, the edges that the document names, wrong arguments. */
public final class Promises {
    private static final int MIN = Integer.MIN_VALUE;
    private static final int MAX = Integer.MAX_VALUE;
    private static int wrong = 0;
    private static String promise = "";

    /** A ring 0 1 2 3 4 (5 corners) with a cross street 1 3, and three leaders. */
    private static final String RING =
            "c 5; s 0 1 2; s 1 2 3; s 2 3 1; s 3 4 2; s 4 0 5; s 1 3 9; l 2 5; l 0 2; l 4 1;";

    public static void main(String[] args) {
        newObject();
        type();
        clear();
        city();
        cityFaults();
        cityLimits();
        cityReadAnew();
        street();
        leader();
        far();
        leads();
        leadsChoice();
        leadsStands();
        shuts();
        undo();
        undoKeepsTen();
        now();
        order();
        orderTurnsAbout();
        orderNotAtDoor();
        most();
        rows();
        rowsHomes();
        saw();
        forget();
        fits();
        plans();
        drops();
        planned();
        odds();
        mark();
        keep();
        back();
        count();
        trace();
        System.out.println(wrong == 0 ? "all promises hold" : wrong + " answers are wrong");
        if (wrong != 0) {
            System.exit(1);
        }
    }

    private static void due(String call, long got, long want) {
        if (got != want) {
            wrong++;
            System.out.println(promise + ": " + call + " answered " + got + ", due is " + want);
        }
    }

    private static void write(FeastMarch x, String text) {
        for (int i = 0; i < text.length(); i++) {
            x.type(text.charAt(i));
        }
    }

    private static FeastMarch told(String text) {
        FeastMarch x = new FeastMarch();
        write(x, text);
        int items = 0;
        for (int i = 0; i < text.length(); i++) {
            items += text.charAt(i) == ';' ? 1 : 0;
        }
        due("city() of " + text, x.city(), items);
        return x;
    }

    private static void fault(String text, int place) {
        FeastMarch x = told("c 2; s 0 1 3; l 1 1;");
        write(x, text);
        due("city() of '" + text + "'", x.city(), -10 - place);
        due("count(6) behind '" + text + "'", x.count(6), text.length());
        due("count(0) behind '" + text + "'", x.count(0), 2);
        due("count(1) behind '" + text + "'", x.count(1), 1);
        due("count(2) behind '" + text + "'", x.count(2), 1);
        due("far(0, 1) behind '" + text + "'", x.far(0, 1), 3);
        due("leader(0, 0) behind '" + text + "'", x.leader(0, 0), 1);
    }

    private static void newObject() {
        promise = "1";
        FeastMarch x = new FeastMarch();
        for (int what = 0; what <= 6; what++) {
            due("count", x.count(what), 0);
        }
        due("now(0)", x.now(0), FeastMarch.NONE);
        for (int what = 1; what <= 5; what++) {
            due("now", x.now(what), 0);
        }
        due("trace()", x.trace(), 0);
        due("BAD", FeastMarch.BAD, -1);
        due("STATE", FeastMarch.STATE, -2);
        due("FULL", FeastMarch.FULL, -3);
        due("NONE", FeastMarch.NONE, -9);
        due("NO", FeastMarch.NO, -1000000);
        due("far(0, 0)", x.far(0, 0), -1);
        due("leads(0)", x.leads(0), -1);
        due("shuts(0, 1)", x.shuts(0, 1), -1);
        due("saw(0, 0)", x.saw(0, 0), -1);
        due("plans(0)", x.plans(0), -1);
        due("mark(0, 0)", x.mark(0, 0), FeastMarch.NO);
        due("street(0, 0)", x.street(0, 0), -1);
        due("leader(0, 0)", x.leader(0, 0), -1);
    }

    private static void type() {
        promise = "2";
        FeastMarch x = new FeastMarch();
        due("type(0)", x.type(0), 1);
        due("type(255)", x.type(255), 2);
        due("type(-1)", x.type(-1), -1);
        due("type(256)", x.type(256), -1);
        due("type(MIN)", x.type(MIN), -1);
        due("type(MAX)", x.type(MAX), -1);
        for (int i = 3; i <= 150; i++) {
            due("type(32)", x.type(32), i);
        }
        due("type(32) on 150", x.type(32), -3);
        due("type(256) on 150: BAD is ahead of FULL", x.type(256), -1);
        due("count(6)", x.count(6), 150);
    }

    private static void clear() {
        promise = "3";
        FeastMarch x = told("c 1;");
        due("clear() of none", x.clear(), 0);
        write(x, "c 2;");
        due("clear()", x.clear(), 4);
        due("count(6)", x.count(6), 0);
        due("clear() again", x.clear(), 0);
        due("count(0): the city stays", x.count(0), 1);
        write(x, "c 3;");
        due("city() of what came behind", x.city(), 1);
        due("count(0)", x.count(0), 3);
    }

    private static void city() {
        promise = "4";
        FeastMarch x = told(RING);
        due("count(0)", x.count(0), 5);
        due("count(1)", x.count(1), 6);
        due("count(2)", x.count(2), 3);
        due("count(6)", x.count(6), 0);
        due("now(0)", x.now(0), 0);
        due("city() of an empty text", x.city(), 0);
        due("count(0)", x.count(0), 0);
        due("count(1)", x.count(1), 0);
        due("count(2)", x.count(2), 0);
        due("now(0)", x.now(0), -9);
        told("c8;s0 7 9;l7 5;");
        told("  c  8  ;  s  0  7  9  ;  l  7  5  ;  ");
        told("c1;l0 1;l0 5;");
        write(x, "   ");
        due("city() of blanks", x.city(), 0);
        due("count(6)", x.count(6), 0);
    }

    private static void cityFaults() {
        promise = "4";
        fault("c", 1);
        fault("c ", 2);
        fault("c 1", 3);
        fault("c 1  ", 5);
        fault("c1;s", 4);
        fault("c2;s0", 5);
        fault("c2;s0 1 ", 8);
        fault("c2;s0 1 2 ", 10);
        fault("c2;l", 4);
        fault(";", 0);
        fault("  ;", 2);
        fault("1", 0);
        fault("x1;", 0);
        fault("cc1;", 0);
        fault("s0 1 1;", 0);
        fault("l0 1;", 0);
        fault("c1;c1;", 3);
        fault("c2;l0 1; c1;", 9);
        fault("c0;", 1);
        fault("c 9;", 2);
        fault("c01;", 1);
        fault("c00;", 1);
        fault("c100;", 1);
        fault("c 4294967297;", 2);
        fault("c1 2;", 3);
        fault("c 10;", 2);
        fault("c 99;", 2);
        fault("c8;s0 1 11;", 8);
        fault("c8;s10 1 1;", 4);
        fault("c8;l0 10;", 6);
        fault("c;", 1);
        fault("cs;", 0);
        fault("c1s;", 2);
        fault("c1;;", 3);
        fault("c1;x;", 3);
        fault("c1;sl;", 3);
        fault("c2;s2 1 1;", 4);
        fault("c2;s0 2 1;", 6);
        fault("c2;s0 0 1;", 6);
        fault("c2;s1 1 1;", 6);
        fault("c2;s0 1 0;", 8);
        fault("c2;s0 1 10;", 8);
        fault("c2;s0 01 1;", 6);
        fault("c2;s0 1 1 1;", 10);
        fault("c2;l2 1;", 4);
        fault("c2;l0 0;", 6);
        fault("c2;l0 6;", 6);
        fault("c2;l0 1", 7);
        fault("C2;", 0);
        fault("c\t2;", 1);
        fault("c2;\n", 3);
        fault("c-1;", 1);
        fault("c2\u00ff;", 2);
        fault("c2;s0 1 1;`", 10);
        fault("c2;s0 1 1;{", 10);
        fault("c/;", 1);
        fault("c:;", 1);
    }

    private static void cityLimits() {
        promise = "4";
        StringBuilder twelve = new StringBuilder("c2;");
        for (int i = 0; i < 12; i++) {
            twelve.append("s0 1 1;");
        }
        FeastMarch x = told(twelve.toString());
        due("count(1)", x.count(1), 12);
        fault(twelve + "s0 1 1;", twelve.length());
        fault(twelve + " s", twelve.length() + 1);
        StringBuilder six = new StringBuilder("c1;");
        for (int i = 0; i < 6; i++) {
            six.append("l0 1;");
        }
        FeastMarch y = told(six.toString());
        due("count(2)", y.count(2), 6);
        fault(six + "l0 1;", six.length());
    }

    private static void cityReadAnew() {
        promise = "4";
        FeastMarch x = told(RING);
        x.leads(0);
        x.shuts(5, 1);
        x.saw(0, 0);
        x.plans(1);
        x.keep(0);
        x.keep(1);
        x.mark(0, 0);
        write(x, "c 2; s 1 0 4;");
        due("city()", x.city(), 2);
        due("count(3)", x.count(3), 0);
        due("count(4)", x.count(4), 0);
        due("count(5)", x.count(5), 0);
        due("undo()", x.undo(), -2);
        due("back(0)", x.back(0), -2);
        due("back(1)", x.back(1), -2);
        due("trace()", x.trace(), 1);
        for (int what = 0; what <= 5; what++) {
            due("now(" + what + ")", x.now(what), 0);
        }
        due("street(0, 3)", x.street(0, 3), 0);
        due("far(0, 1)", x.far(0, 1), 4);
        due("street(1, 0)", x.street(1, 0), -1);
        due("order(-1)", x.order(-1), 1);
        due("order(0)", x.order(0), -9);
    }

    private static void street() {
        promise = "5";
        FeastMarch x = told("c 3; s 2 1 7; s 0 2 4; l 2 1; l 0 1;");
        due("street(0, 0)", x.street(0, 0), 2);
        due("street(0, 1)", x.street(0, 1), 1);
        due("street(0, 2)", x.street(0, 2), 7);
        due("street(0, 3)", x.street(0, 3), 0);
        due("street(0, 4)", x.street(0, 4), 0);
        x.shuts(0, 1);
        due("street(0, 4)", x.street(0, 4), 1);
        due("street(1, 4)", x.street(1, 4), 0);
        x.leads(0);
        due("street(1, 3)", x.street(1, 3), 1);
        x.leads(1);
        due("street(1, 3)", x.street(1, 3), 3);
        due("street(0, 3)", x.street(0, 3), 0);
        due("street(-1, 0)", x.street(-1, 0), -1);
        due("street(2, 0)", x.street(2, 0), -1);
        due("street(0, -1)", x.street(0, -1), -1);
        due("street(0, 5)", x.street(0, 5), -1);
        due("street(MIN, MAX)", x.street(MIN, MAX), -1);
        FeastMarch y = told("c 2; s 1 0 1; l 1 1;");
        y.leads(0);
        due("street(0, 3) from its second corner", y.street(0, 3), 2);
    }

    private static void leader() {
        promise = "6";
        FeastMarch x = told(RING);
        due("leader(0, 0)", x.leader(0, 0), 2);
        due("leader(0, 1)", x.leader(0, 1), 5);
        due("leader(0, 2)", x.leader(0, 2), 0);
        due("leader(2, 0)", x.leader(2, 0), 4);
        x.leads(2);
        due("leader(2, 2)", x.leader(2, 2), 1);
        due("leader(1, 2)", x.leader(1, 2), 0);
        due("leader(-1, 0)", x.leader(-1, 0), -1);
        due("leader(3, 0)", x.leader(3, 0), -1);
        due("leader(0, 3)", x.leader(0, 3), -1);
        due("leader(0, -1)", x.leader(0, -1), -1);
        due("leader(MAX, MIN)", x.leader(MAX, MIN), -1);
    }

    private static void far() {
        promise = "7";
        FeastMarch x = told("c 5; s 0 1 9; s 1 2 1; s 2 0 2; s 2 0 5; s 3 2 4; l 1 5; l 0 5;");
        due("far(0, 1) by two streets", x.far(0, 1), 3);
        due("far(1, 0)", x.far(1, 0), 3);
        due("far(0, 2) by the shorter one", x.far(0, 2), 2);
        due("far(3, 0)", x.far(3, 0), 6);
        due("far(2, 2)", x.far(2, 2), 0);
        due("far(0, 4): no way", x.far(0, 4), 99);
        due("far(4, 4)", x.far(4, 4), 0);
        x.shuts(1, 1);
        x.leads(0);
        due("far(0, 1), whatever is shut or taken", x.far(0, 1), 3);
        due("far(-1, 0)", x.far(-1, 0), -1);
        due("far(0, 5)", x.far(0, 5), -1);
        due("far(5, 0)", x.far(5, 0), -1);
        due("far(MIN, MAX)", x.far(MIN, MAX), -1);
        FeastMarch by = told("c 3; s 1 0 2; s 0 2 3;");
        due("far(1, 2) by the door", by.far(1, 2), 5);
        FeastMarch y = told("c8;s0 1 9;s1 2 9;s2 3 9;s3 4 9;s4 5 9;s5 6 9;s6 7 9;");
        due("far(0, 7), the longest", y.far(0, 7), 63);
        due("far(7, 0)", y.far(7, 0), 63);
    }

    private static void leads() {
        promise = "8";
        FeastMarch x = told(RING);
        due("leads(0): home, with feet left", x.leads(0), 2);
        due("now(1)", x.now(1), 5);
        due("now(2)", x.now(2), 0);
        due("leads(0) again", x.leads(0), -2);
        due("leads(3)", x.leads(3), -1);
        due("leads(-1)", x.leads(-1), -1);
        due("leads(MIN)", x.leads(MIN), -1);
        due("leads(MAX)", x.leads(MAX), -1);
        due("leads(2): one street", x.leads(2), 3);
        due("now(1)", x.now(1), 6);
        due("leads(1): by the cross street", x.leads(1), 0);
        due("now(1)", x.now(1), 17);
        due("now(3)", x.now(3), 7);
        FeastMarch y = told("c 3; s 0 1 1; s 1 2 1; s 2 0 5; l 0 5;");
        due("leads(0) away from his home and back", y.leads(0), 0);
        due("now(1)", y.now(1), 2);
        due("street(0, 3)", y.street(0, 3), 3);
    }

    private static void leadsChoice() {
        promise = "8";
        FeastMarch x = told("c 4; s 0 1 5; s 0 2 4; s 1 3 2; s 2 3 2; l 3 1;");
        due("leads(0): of two as far, by the shorter", x.leads(0), 2);
        FeastMarch y = told("c 4; s 0 1 4; s 0 2 4; s 1 3 2; s 2 3 2; l 3 1;");
        due("leads(0): of two as short, the first", y.leads(0), 1);
        FeastMarch z = told("c 2; s 0 1 3; s 1 0 2; s 0 1 2; l 1 1; l 0 1;");
        z.leads(0);
        due("now(4)", z.now(4), 2);
        due("street(1, 3)", z.street(1, 3), 2);
        z.leads(1);
        due("street(1, 3): back by the other way", z.street(1, 3), 3);
        FeastMarch shut = told("c 2; s 0 1 1; s 0 1 9; l 1 1;");
        shut.shuts(0, 1);
        shut.leads(0);
        due("now(4): not by a shut one", shut.now(4), 2);
        due("now(1)", shut.now(1), 9);
        FeastMarch none = told("c 3; s 0 1 1; l 2 2;");
        due("leads(0): home out of reach", none.leads(0), 0);
        due("now(1)", none.now(1), 2);
        due("now(2)", none.now(2), 0);
        FeastMarch far = told("c 4; s 0 1 1; s 0 2 9; s 2 3 1; s 1 3 9; l 3 2;");
        due("leads(0): least far from his home, not by the shortest street", far.leads(0), 3);
        due("now(4)", far.now(4), 6);
    }

    private static void leadsStands() {
        promise = "8";
        FeastMarch x = told("c 3; s 0 1 1; l 2 5; l 1 2; l 0 1;");
        due("leads(0): there and back, then it stands", x.leads(0), 0);
        due("now(2): one fine only", x.now(2), 1);
        due("now(1)", x.now(1), 2);
        due("leads(1): stands at once", x.leads(1), 0);
        due("now(2)", x.now(2), 2);
        due("leader(1, 2): he led", x.leader(1, 2), 1);
        due("leads(1)", x.leads(1), -2);
        FeastMarch y = told("c 1; l 0 1;");
        due("leads(0): no street", y.leads(0), 0);
        due("now(2)", y.now(2), 1);
    }

    private static void shuts() {
        promise = "9";
        FeastMarch x = told(RING);
        due("shuts(5, 1)", x.shuts(5, 1), 1);
        due("shuts(0, 1)", x.shuts(0, 1), 2);
        due("now(5)", x.now(5), 33);
        due("shuts(0, 1): it is so", x.shuts(0, 1), -2);
        due("shuts(1, 0): it is so", x.shuts(1, 0), -2);
        due("count(5)", x.count(5), 2);
        due("shuts(5, 0)", x.shuts(5, 0), 1);
        due("shuts(6, 1)", x.shuts(6, 1), -1);
        due("shuts(-1, 1)", x.shuts(-1, 1), -1);
        due("shuts(0, 2)", x.shuts(0, 2), -1);
        due("shuts(0, -1)", x.shuts(0, -1), -1);
        due("shuts(MIN, MAX)", x.shuts(MIN, MAX), -1);
        due("leads(0): the other way about", x.leads(0), 2);
        due("now(4)", x.now(4), 28);
    }

    private static void undo() {
        promise = "10";
        FeastMarch x = told(RING);
        due("undo() of nothing", x.undo(), -2);
        x.shuts(5, 1);
        x.leads(0);
        x.saw(1, 2);
        x.plans(0);
        due("undo() of leads", x.undo(), 1);
        due("now(0)", x.now(0), 0);
        due("now(1)", x.now(1), 0);
        due("now(3)", x.now(3), 0);
        due("now(4)", x.now(4), 0);
        due("now(5)", x.now(5), 32);
        due("count(3)", x.count(3), 1);
        due("count(4)", x.count(4), 1);
        due("undo() of shuts", x.undo(), 0);
        due("now(5)", x.now(5), 0);
        due("undo() of nothing", x.undo(), -2);
        x.shuts(1, 1);
        x.shuts(1, 0);
        due("undo() of an opening", x.undo(), 1);
        due("now(5)", x.now(5), 2);
        FeastMarch y = told("c 1; l 0 1;");
        y.leads(0);
        y.leads(0);
        due("undo(): refused calls don't count", y.undo(), 0);
        due("now(2): the fine, too", y.now(2), 0);
        due("leads(0) may lead again", y.leads(0), 0);
    }

    private static void undoKeepsTen() {
        promise = "10";
        FeastMarch x = told(RING);
        x.leads(0);
        for (int i = 0; i < 6; i++) {
            x.shuts(i, 1);
        }
        for (int i = 0; i < 5; i++) {
            x.shuts(i, 0);
        }
        due("count(5)", x.count(5), 10);
        for (int left = 9; left >= 0; left--) {
            due("undo()", x.undo(), left);
        }
        due("undo(): older ones are lost", x.undo(), -2);
        due("now(5): the first shut stays", x.now(5), 1);
        due("now(0): the first led stays", x.now(0), 2);
    }

    private static void now() {
        promise = "11";
        FeastMarch x = told(RING);
        x.leads(2);
        x.shuts(2, 1);
        due("now(0)", x.now(0), 4);
        due("now(1)", x.now(1), 5);
        due("now(2)", x.now(2), 0);
        due("now(3)", x.now(3), 4);
        due("now(4)", x.now(4), 16);
        due("now(5)", x.now(5), 4);
        due("now(-1)", x.now(-1), -1);
        due("now(6)", x.now(6), -1);
        due("now(MIN)", x.now(MIN), -1);
        due("now(MAX)", x.now(MAX), -1);
        FeastMarch one = told("c 1;");
        due("now(0) of one corner", one.now(0), 0);
    }

    private static void order() {
        promise = "12";
        // Both rows go to 1 and back: the first one is told.
        FeastMarch x = told("c 3; s 0 1 2; s 1 2 3; l 0 1; l 1 1;");
        due("order(-1)", x.order(-1), 1);
        due("order(-2)", x.order(-2), 0);
        due("order(-3)", x.order(-3), 4);
        due("order(0)", x.order(0), 0);
        due("order(1)", x.order(1), 1);
        due("order(2)", x.order(2), -9);
        due("order(5)", x.order(5), -9);
        due("order(6)", x.order(6), -1);
        due("order(-4)", x.order(-4), -1);
        due("order(MIN)", x.order(MIN), -1);
        due("order(MAX)", x.order(MAX), -1);
        due("now(1): nothing is changed", x.now(1), 0);
        due("count(5)", x.count(5), 0);
        x.leads(1);
        due("order(-3): hours more", x.order(-3), 2);
        due("order(0)", x.order(0), 0);
        due("order(1)", x.order(1), -9);
        x.leads(0);
        due("order(-1) of nobody", x.order(-1), 1);
        due("order(-3) of nobody", x.order(-3), 0);
        due("order(0) of nobody", x.order(0), -9);
        x.undo();
        due("order(0) behind undo()", x.order(0), 0);
        x.shuts(0, 1);
        due("order(-1) behind shuts()", x.order(-1), 0);
        due("order(-3) behind shuts()", x.order(-3), 3);
        // 0 1 goes by the long street and back, 1 0 by the short one.
        FeastMarch soonest = told("c 3; s 0 1 9; s 0 2 2; l 1 1; l 2 1;");
        due("order(-3): the soonest", soonest.order(-3), 4);
        due("order(0)", soonest.order(0), 1);
        due("order(1)", soonest.order(1), 0);
        FeastMarch equal = told("c 2; s 0 1 2; l 0 2; l 0 2;");
        due("order(0): the first of several", equal.order(0), 0);
        due("order(-2)", equal.order(-2), 1);
    }

    /**
     * Where it STANDS, all who are left stand too, so that who is turned about leads no other way;
     * what is told of a ROW is told as if nobody turned.
     */
    private static void orderTurnsAbout() {
        promise = "12";
        // 0 goes to 1 and back and then stands, and so do all behind him. 1 2 go to 1 and back, the
        // others stand: 2 fines. 1 0: 0 comes back and then stands: 3 fines.
        FeastMarch x = told("c 3; s 0 1 1; l 2 3; l 1 1; l 0 1; l 1 1;");
        due("order(-1)", x.order(-1), 1);
        due("order(-2)", x.order(-2), 2);
        due("order(-3)", x.order(-3), 2);
        due("order(0)", x.order(0), 1);
        due("order(1)", x.order(1), 2);
        due("order(2) as told", x.order(2), 0);
        due("order(3) as told", x.order(3), 3);
        x.leads(1);
        x.leads(0);
        due("now(2)", x.now(2), 1);
        due("order(-2): fines more", x.order(-2), 2);
        FeastMarch all = told("c 1; l 0 1; l 0 1; l 0 1; l 0 1;");
        for (int i = 0; i < 4; i++) {
            due("order(" + i + ") as told", all.order(i), i);
            due("most(" + i + ") as told", all.most(i), i);
        }
        due("order(-2)", all.order(-2), 4);
        due("rows(2)", all.rows(2), 4);
        due("rows(5)", all.rows(5), 15);
        due("fits(-1)", all.fits(-1), 24);
        FeastMarch six = told("c 2; s 0 1 1; l 1 1; l 0 2; l 1 1; l 0 1; l 0 1; l 0 1;");
        due("order(-2) of six", six.order(-2), 4);
        due("fits(-1) of six", six.fits(-1), 720);
        due("rows(5) of six", six.rows(5), 63);
    }

    private static void orderNotAtDoor() {
        promise = "12";
        FeastMarch x = told("c 3; s 0 1 1; s 0 2 2; l 1 1; l 2 1;");
        // 0 first: to 1, then back to 0: at the door. 1 first: to 2, then back to 0 too.
        due("order(-1)", x.order(-1), 1);
        due("order(-3)", x.order(-3), 2);
        due("order(0)", x.order(0), 0);
        FeastMarch y = told("c 2; s 0 1 3; l 1 1;");
        due("order(-1): it can't end there", y.order(-1), 0);
        due("order(-3)", y.order(-3), 3);
        due("order(0)", y.order(0), 0);
        FeastMarch none = new FeastMarch();
        due("order(-1) of no corners", none.order(-1), 0);
        due("order(-2) of no corners", none.order(-2), 0);
        due("order(-3) of no corners", none.order(-3), 0);
    }

    private static void most() {
        promise = "13";
        // 0 first: two streets out and none back; 1 first: one street out, back by the same.
        FeastMarch x = told("c 3; s 0 1 2; s 1 2 3; l 1 1; l 2 1; l 0 1;");
        due("most(-1)", x.most(-1), 2);
        due("most(0)", x.most(0), 0);
        due("most(1)", x.most(1), 1);
        due("most(2)", x.most(2), 2);
        due("most(3)", x.most(3), -9);
        due("most(5)", x.most(5), -9);
        due("most(6)", x.most(6), -1);
        due("most(-2)", x.most(-2), -1);
        due("most(MIN)", x.most(MIN), -1);
        due("most(MAX)", x.most(MAX), -1);
        x.leads(0);
        due("most(-1), those ahead of now, too", x.most(-1), 2);
        due("most(0)", x.most(0), 1);
        x.leads(2);
        due("most(-1): one way or both is one street", x.most(-1), 1);
        due("most(0)", x.most(0), 1);
        due("most(1)", x.most(1), -9);
        x.leads(1);
        due("most(-1) of nobody", x.most(-1), 1);
        due("most(0) of nobody", x.most(0), -9);
    }

    private static void rows() {
        promise = "14";
        FeastMarch x = told("c 4; s 0 1 2; s 1 2 3; s 0 3 1; l 1 1; l 2 1; l 0 1;");
        // 0 2 1: to 1, to 0, and then, that way being taken, to 3.
        due("rows(0)", x.rows(0), 0);
        due("rows(1)", x.rows(1), 10);
        due("rows(-1)", x.rows(-1), -1);
        due("rows(6)", x.rows(6), -1);
        due("rows(MIN)", x.rows(MIN), -1);
        due("rows(MAX)", x.rows(MAX), -1);
        FeastMarch y = told("c 3; s 0 1 2; s 1 2 3; l 1 1; l 0 1;");
        due("rows(0): the second one by no row", y.rows(0), 2);
        due("rows(1): 0 1 ends at 0, 1 0 at 0", y.rows(1), 1);
        due("rows(3)", y.rows(3), 4);
        due("rows(4)", y.rows(4), 4);
        due("rows(5): 1 last, 0 last", y.rows(5), 3);
        y.leads(0);
        y.shuts(0, 1);
        due("rows(0): 0 was walked", y.rows(0), 0);
        due("rows(1)", y.rows(1), 4);
        due("rows(3): hours more", y.rows(3), 3);
        due("rows(5)", y.rows(5), 0);
        y.leads(1);
        due("rows(0) of nobody", y.rows(0), 0);
        due("rows(1) of nobody", y.rows(1), 4);
        due("rows(2) of nobody", y.rows(2), 0);
        due("rows(3) of nobody", y.rows(3), 0);
        due("rows(4) of nobody", y.rows(4), 0);
        due("rows(5) of nobody", y.rows(5), 0);
        y.undo();
        y.undo();
        due("rows(0) behind undo()", y.rows(0), 2);
        FeastMarch first = told("c 3; s 2 1 1; s 0 1 1; l 1 1;");
        due("rows(0): the first one by no row", first.rows(0), 1);
        FeastMarch hides = told("c 2; s 0 1 1; l 1 1; l 0 1;");
        hides.leads(0);
        due("rows(5): one is left", hides.rows(5), 2);
        FeastMarch none = new FeastMarch();
        for (int what = 0; what <= 5; what++) {
            due("rows(" + what + ") of no corners", none.rows(what), 0);
        }
        FeastMarch bread = told("c 3; s 0 1 2; s 0 2 9; l 1 1; l 2 1;");
        due("rows(3), the fewest", bread.rows(3), 4);
        due("rows(4), the most", bread.rows(4), 18);
        FeastMarch door = told("c 1;");
        due("rows(1) without leaders", door.rows(1), 1);
        due("rows(5) without leaders", door.rows(5), 0);
    }

    private static void rowsHomes() {
        promise = "14";
        FeastMarch x = told("c 2; s 0 1 1; l 1 1; l 0 1; l 0 1;");
        // 0 1 2: 1 (home), 0 (home), then it stands at 0, the home of 2.
        due("rows(2): one who stands at his home, too", x.rows(2), 3);
        FeastMarch y = told("c 3; s 0 1 1; s 1 2 1; l 2 1; l 2 1; l 1 1;");
        // 0 1 2: 1, 2 (home), 1 (home). 2 0 1: 1 (home), 2 (home), 1.
        due("rows(2)", y.rows(2), 2);
        FeastMarch z = told("c 2; s 0 1 1; l 0 1;");
        due("rows(2): led away from home", z.rows(2), 0);
    }

    private static void saw() {
        promise = "15";
        FeastMarch x = told(RING);
        due("saw(0, 4)", x.saw(0, 4), 1);
        due("saw(0, 4) again", x.saw(0, 4), 2);
        due("saw(5, 0): more than lead", x.saw(5, 0), 3);
        due("saw(-1, 0)", x.saw(-1, 0), -1);
        due("saw(6, 0)", x.saw(6, 0), -1);
        due("saw(0, -1)", x.saw(0, -1), -1);
        due("saw(0, 5)", x.saw(0, 5), -1);
        due("saw(MIN, MAX)", x.saw(MIN, MAX), -1);
        x.saw(1, 1);
        x.saw(2, 2);
        due("saw(3, 3)", x.saw(3, 3), 6);
        due("saw(3, 3): full", x.saw(3, 3), -3);
        due("saw(6, 3): BAD is ahead of FULL", x.saw(6, 3), -1);
        due("count(3)", x.count(3), 6);
    }

    private static void forget() {
        promise = "16";
        FeastMarch x = told(RING);
        due("forget() of nothing", x.forget(), 0);
        x.saw(5, 0);
        x.saw(5, 1);
        due("fits(-1)", x.fits(-1), 0);
        due("forget()", x.forget(), 2);
        due("count(3)", x.count(3), 0);
        due("fits(-1)", x.fits(-1), 6);
        due("forget()", x.forget(), 0);
    }

    private static void fits() {
        promise = "17";
        FeastMarch x = told("c 3; s 0 1 2; s 0 2 3; l 1 1; l 2 1;");
        due("fits(-1) of nothing seen", x.fits(-1), 2);
        due("fits(0)", x.fits(0), -5);
        due("fits(2): not so many", x.fits(2), -9);
        due("fits(5)", x.fits(5), -9);
        due("fits(6)", x.fits(6), -1);
        due("fits(-2)", x.fits(-2), -1);
        due("fits(MIN)", x.fits(MIN), -1);
        due("fits(MAX)", x.fits(MAX), -1);
        x.saw(0, 2);
        due("fits(-1)", x.fits(-1), 1);
        due("fits(0)", x.fits(0), 1);
        due("fits(1)", x.fits(1), 0);
        due("fits(2)", x.fits(2), -9);
        x.saw(0, 1);
        due("fits(-1): never both", x.fits(-1), 0);
        due("fits(0): no row", x.fits(0), -9);
        x.forget();
        x.saw(2, 0);
        due("fits(-1): there is no third", x.fits(-1), 0);
        x.forget();
        x.leads(0);
        x.leads(1);
        due("fits(-1): one row, of none", x.fits(-1), 1);
        due("fits(0)", x.fits(0), -9);
        FeastMarch out = told("c 3; s 0 1 1; l 1 2; l 2 2; l 0 2;");
        out.saw(0, 0);
        due("fits(-1): 1 or 2 first, there and back", out.fits(-1), 4);
        due("fits(0)", out.fits(0), -5);
        out.leads(0);
        due("fits(-1): k from now on", out.fits(-1), 2);
        due("fits(1)", out.fits(1), -5);
        out.leads(2);
        due("fits(-1)", out.fits(-1), 1);
        due("fits(0)", out.fits(0), 1);
    }

    private static void plans() {
        promise = "18";
        FeastMarch x = told(RING);
        x.leads(0);
        due("plans(0), who led", x.plans(0), 1);
        due("plans(1)", x.plans(1), 2);
        due("plans(1) again", x.plans(1), 3);
        due("plans(3)", x.plans(3), -1);
        due("plans(-1)", x.plans(-1), -1);
        due("plans(MIN)", x.plans(MIN), -1);
        due("plans(MAX)", x.plans(MAX), -1);
        x.plans(2);
        x.plans(2);
        due("plans(2)", x.plans(2), 6);
        due("plans(2): full", x.plans(2), -3);
        due("plans(3): BAD is ahead of FULL", x.plans(3), -1);
        due("count(4)", x.count(4), 6);
    }

    private static void drops() {
        promise = "19";
        FeastMarch x = told(RING);
        due("drops() of none", x.drops(), 0);
        x.plans(0);
        x.plans(0);
        due("drops()", x.drops(), 2);
        due("count(4)", x.count(4), 0);
        due("planned(3)", x.planned(3), 0);
        due("drops()", x.drops(), 0);
    }

    private static void planned() {
        promise = "20";
        FeastMarch x = told(RING);
        due("planned(0) of none", x.planned(0), 0);
        due("planned(3) of none", x.planned(3), 0);
        x.plans(2);
        x.plans(2);
        x.plans(0);
        x.plans(2);
        // 2: 0 to 4 (5 hours); 0: 4 to 3 to 2 (3 hours).
        due("planned(0)", x.planned(0), 2);
        due("planned(1)", x.planned(1), 8);
        due("planned(2)", x.planned(2), 0);
        due("planned(3): each once", x.planned(3), 2);
        due("planned(-1)", x.planned(-1), -1);
        due("planned(4)", x.planned(4), -1);
        due("planned(MIN)", x.planned(MIN), -1);
        due("planned(MAX)", x.planned(MAX), -1);
        due("now(0): nothing is changed", x.now(0), 0);
        x.leads(2);
        due("planned(1): hours more", x.planned(1), 3);
        due("planned(3): who led does not", x.planned(3), 1);
        x.shuts(3, 1);
        x.shuts(4, 1);
        due("planned(0): as shut now", x.planned(0), 4);
        due("planned(2): fines more", x.planned(2), 1);
        FeastMarch y = told("c 3; s 0 1 1; l 2 3; l 1 1; l 0 1;");
        y.plans(0);
        y.plans(1);
        y.plans(2);
        due("planned(2): each stands", y.planned(2), 3);
        y.leads(0);
        due("now(2)", y.now(2), 1);
        due("planned(2): fines more", y.planned(2), 2);
        FeastMarch none = new FeastMarch();
        due("planned(0) of no corners", none.planned(0), -9);
        due("planned(1) of no corners", none.planned(1), 0);
    }

    private static void odds() {
        promise = "21";
        FeastMarch x = told("c 2; s 0 1 1; l 1 1; l 0 1;");
        due("odds(3, 0) of no plan, at the door", x.odds(3, 0), 1);
        due("odds(3, 1)", x.odds(3, 1), 1);
        x.plans(0);
        due("odds(3, 0): if he faints", x.odds(3, 0), 3);
        due("odds(3, 1)", x.odds(3, 1), 10);
        due("odds(5, 0), in least terms", x.odds(5, 0), 1);
        due("odds(5, 1)", x.odds(5, 1), 2);
        due("odds(0, 0): never", x.odds(0, 0), 0);
        due("odds(0, 1)", x.odds(0, 1), 1);
        due("odds(10, 0): surely", x.odds(10, 0), 1);
        due("odds(10, 1)", x.odds(10, 1), 1);
        x.plans(0);
        x.plans(1);
        // Both lead, or both faint (1 alone leads away to 1): 0.49 and 0.09.
        due("odds(3, 0)", x.odds(3, 0), 29);
        due("odds(3, 1)", x.odds(3, 1), 50);
        due("odds(-1, 0)", x.odds(-1, 0), -1);
        due("odds(11, 0)", x.odds(11, 0), -1);
        due("odds(0, -1)", x.odds(0, -1), -1);
        due("odds(0, 2)", x.odds(0, 2), -1);
        due("odds(MIN, MAX)", x.odds(MIN, MAX), -1);
        due("now(3): nobody led", x.now(3), 0);
        x.leads(0);
        due("odds(1, 0): from now on", x.odds(1, 0), 9);
        due("odds(1, 1)", x.odds(1, 1), 10);
        FeastMarch none = new FeastMarch();
        due("odds(3, 0) of no corners", none.odds(3, 0), 0);
        due("odds(3, 1) of no corners", none.odds(3, 1), 1);
        FeastMarch all = told("c 1; l 0 1; l 0 1; l 0 1; l 0 1; l 0 1; l 0 1;");
        for (int l = 0; l < 6; l++) {
            all.plans(l);
        }
        due("odds(7, 0) of six", all.odds(7, 0), 1);
        due("odds(7, 1) of six", all.odds(7, 1), 1);
    }

    private static void mark() {
        promise = "22";
        FeastMarch x = told("c 3; s 0 2 7; s 0 1 2; l 2 2; l 0 5; l 1 3; l 1 3;");
        due("mark(0, 0)", x.mark(0, 0), 7);
        due("mark(1, 0)", x.mark(1, 0), 7);
        due("mark(2, 0)", x.mark(2, 0), 5);
        due("mark(3, 0)", x.mark(3, 0), 14);
        due("mark(4, 0)", x.mark(4, 0), 5);
        due("mark(5, 0)", x.mark(5, 0), 7);
        x.leads(0);
        x.leads(1);
        x.leads(2);
        x.leads(3);
        x.shuts(0, 1);
        due("now(1)", x.now(1), 18);
        due("now(2)", x.now(2), 1);
        due("mark(0, 0)", x.mark(0, 0), 7);
        due("mark(1, 0): two ways", x.mark(1, 0), 9);
        due("mark(2, 0)", x.mark(2, 0), 5);
        due("mark(3, 0)", x.mark(3, 0), 18);
        due("mark(4, 0)", x.mark(4, 0), 6);
        due("mark(5, 0)", x.mark(5, 0), 25);
        long before = x.trace();
        due("mark(6, 0)", x.mark(6, 0), FeastMarch.NO);
        due("mark(-1, 0)", x.mark(-1, 0), FeastMarch.NO);
        due("mark(0, -1)", x.mark(0, -1), FeastMarch.NO);
        due("mark(0, 2)", x.mark(0, 2), FeastMarch.NO);
        due("mark(MIN, MAX)", x.mark(MIN, MAX), FeastMarch.NO);
        due("trace(): refused ones ask nothing", x.trace(), before);
        FeastMarch low = told("c 8; s 0 7 1; l 7 1;");
        due("mark(2, 0) below 0", low.mark(2, 0), -6);
        low.leads(0);
        due("mark(1, 0): one way", low.mark(1, 0), 2);
        due("mark(3, 0)", low.mark(3, 0), 4);
        FeastMarch second = told("c 8; s 7 0 1; l 7 1;");
        second.leads(0);
        due("mark(1, 0): one way, the second", second.mark(1, 0), 2);
    }

    private static void keep() {
        promise = "23";
        FeastMarch x = told(RING);
        due("keep(0)", x.keep(0), 0);
        x.leads(0);
        due("keep(1)", x.keep(1), 5);
        due("keep(0) anew", x.keep(0), 5);
        due("keep(-1)", x.keep(-1), -1);
        due("keep(2)", x.keep(2), -1);
        due("keep(MIN)", x.keep(MIN), -1);
        due("keep(MAX)", x.keep(MAX), -1);
        due("count(5): not to be undone", x.count(5), 1);
        FeastMarch none = new FeastMarch();
        due("keep(0) of no corners", none.keep(0), 0);
        due("back(0)", none.back(0), 0);
    }

    private static void back() {
        promise = "24";
        FeastMarch x = told(RING);
        due("back(0): none was kept", x.back(0), -2);
        due("back(2)", x.back(2), -1);
        due("back(-1)", x.back(-1), -1);
        due("back(MIN)", x.back(MIN), -1);
        due("back(MAX)", x.back(MAX), -1);
        x.leads(0);
        x.shuts(0, 1);
        x.keep(0);
        due("back(1): none was kept", x.back(1), -2);
        x.saw(0, 1);
        x.plans(1);
        x.undo();
        x.undo();
        x.shuts(5, 1);
        x.leads(2);
        due("back(0)", x.back(0), 5);
        due("now(0)", x.now(0), 2);
        due("now(1)", x.now(1), 5);
        due("now(3)", x.now(3), 1);
        due("now(4)", x.now(4), 3);
        due("now(5)", x.now(5), 1);
        due("count(3): what was seen stays", x.count(3), 1);
        due("count(4): the plan stays", x.count(4), 1);
        due("count(5)", x.count(5), 2);
        due("undo() as kept", x.undo(), 1);
        due("now(5)", x.now(5), 0);
        due("undo() as kept", x.undo(), 0);
        due("now(0)", x.now(0), 0);
        due("back(0) again", x.back(0), 5);
        due("trace()", x.trace(), 0);
        FeastMarch y = told("c 2; s 0 1 3; l 1 1; l 0 1;");
        y.keep(1);
        y.leads(0);
        due("order(-3)", y.order(-3), 3);
        y.back(1);
        due("order(-3) behind back()", y.order(-3), 6);
        FeastMarch ten = told(RING);
        ten.leads(0);
        for (int i = 0; i < 12; i++) {
            ten.shuts(i % 6, i < 6 ? 1 : 0);
        }
        ten.keep(0);
        for (int i = 0; i < 11; i++) {
            ten.shuts(i % 6, i < 6 ? 1 : 0);
        }
        due("count(5): all of it is lost", ten.count(5), 10);
        due("back(0)", ten.back(0), 5);
        for (int left = 9; left >= 0; left--) {
            due("undo() as kept", ten.undo(), left);
        }
        due("now(5) as kept", ten.now(5), 3);
        due("now(0) as kept", ten.now(0), 2);
    }

    private static void count() {
        promise = "25";
        FeastMarch x = told(RING);
        x.saw(0, 0);
        x.saw(0, 0);
        x.plans(0);
        x.shuts(0, 1);
        x.leads(0);
        x.leads(1);
        write(x, "c 2");
        due("count(0)", x.count(0), 5);
        due("count(1)", x.count(1), 6);
        due("count(2)", x.count(2), 3);
        due("count(3)", x.count(3), 2);
        due("count(4)", x.count(4), 1);
        due("count(5)", x.count(5), 3);
        due("count(6)", x.count(6), 3);
        due("count(-1)", x.count(-1), -1);
        due("count(7)", x.count(7), -1);
        due("count(MIN)", x.count(MIN), -1);
        due("count(MAX)", x.count(MAX), -1);
    }

    private static void trace() {
        promise = "26";
        FeastMarch x = told(RING);
        due("trace() at first", x.trace(), 0);
        long[] due = {1, 11, 101, 1011, 10101, 100001};
        long sum = 0;
        for (int kind = 0; kind < due.length; kind++) {
            x.mark(kind, 0);
            sum += due[kind];
            due("trace() behind mark(" + kind + ", 0)", x.trace(), sum);
        }
        x.keep(0);
        x.mark(0, 1);
        x.back(0);
        due("trace() behind back()", x.trace(), sum + 1);
        x.city();
        due("trace() behind city()", x.trace(), sum + 1);
        FeastMarch y = told(RING);
        for (int i = 0; i < 400; i++) {
            y.mark(5, 0);
        }
        due("trace() of many", y.trace(), 40000400L);
        due("trace() of another object", x.trace(), sum + 1);
    }
}
