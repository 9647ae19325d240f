import java.util.function.ToLongFunction;

/** What the numbers of each call may be, promise by promise: both ends are taken, what is beyond is BAD. */
public final class EdgesOfCalls {
    public static void main(String[] args) {
        newObject();
        constants();
        street();
        leader();
        far();
        leads();
        shuts();
        now();
        order();
        most();
        rows();
        saw();
        fits();
        plans();
        planned();
        odds();
        mark();
        count();
        noCorners();
        everyRefusalInOneRun();
        Edge.end();
    }

    private static void bad(String call, ToLongFunction<FeastMarch> asks) {
        Edge.refused(Edge::busy, call, asks, Edge.BAD);
        Edge.refused(FeastMarch::new, call + " of a new object", asks, Edge.BAD);
    }

    private static void badHere(String call, ToLongFunction<FeastMarch> asks) {
        Edge.refused(Edge::busy, call, asks, Edge.BAD);
    }

    private static void newObject() {
        Edge.says("FeastMarch(): As told; no CORNERS");
        FeastMarch x = new FeastMarch();
        for (int what = 0; what <= 6; what++) {
            Edge.due("count(" + what + ")", x.count(what), 0);
        }
        Edge.due("now(0)", x.now(0), Edge.NONE);
        for (int what = 1; what <= 5; what++) {
            Edge.due("now(" + what + ")", x.now(what), 0);
        }
        Edge.due("trace()", x.trace(), 0);
        Edge.due("clear()", x.clear(), 0);
        Edge.due("forget()", x.forget(), 0);
        Edge.due("drops()", x.drops(), 0);
        Edge.due("undo()", x.undo(), Edge.STATE);
        Edge.due("back(0)", x.back(0), Edge.STATE);
        Edge.due("back(1)", x.back(1), Edge.STATE);
        Edge.same("asked what it has not, it is as new", x, new FeastMarch());
    }

    private static void constants() {
        Edge.says("BAD = -1, STATE = -2, FULL = -3, NONE = -9; NO = -1000000");
        Edge.due("BAD", FeastMarch.BAD, -1);
        Edge.due("STATE", FeastMarch.STATE, -2);
        Edge.due("FULL", FeastMarch.FULL, -3);
        Edge.due("NONE", FeastMarch.NONE, -9);
        Edge.due("NO", FeastMarch.NO, -1000000);
    }

    private static void street() {
        Edge.says("street: 0, 1 its CORNERS as told, 2 how LONG, 3 ways that are TAKEN, 4 whether SHUT. BAD");
        int[][] want = {{0, 1, 2, 0, 0}, {1, 2, 3, 0, 1}, {2, 3, 1, 2, 0}, {3, 0, 5, 2, 0}};
        FeastMarch x = Edge.busy();
        for (int s = 0; s <= 3; s++) {
            for (int what = 0; what <= 4; what++) {
                Edge.due("street(" + s + ", " + what + ")", x.street(s, what), want[s][what]);
            }
            for (int what : Edge.beyond(0, 4)) {
                int it = s;
                badHere("street(" + s + ", " + what + ")", y -> y.street(it, what));
            }
        }
        for (int s : Edge.beyond(0, 3)) {
            for (int what = -1; what <= 5; what++) {
                int it = what;
                badHere("street(" + s + ", " + what + ")", y -> y.street(s, it));
            }
        }
    }

    private static void leader() {
        Edge.says("leader: 0 HOME, 1 FEET, 2 whether he LED. BAD");
        int[][] want = {{2, 2, 1}, {0, 1, 0}, {3, 1, 1}};
        FeastMarch x = Edge.busy();
        for (int l = 0; l <= 2; l++) {
            for (int what = 0; what <= 2; what++) {
                Edge.due("leader(" + l + ", " + what + ")", x.leader(l, what), want[l][what]);
            }
            for (int what : Edge.beyond(0, 2)) {
                int it = l;
                badHere("leader(" + l + ", " + what + ")", y -> y.leader(it, what));
            }
        }
        for (int l : Edge.beyond(0, 2)) {
            for (int what = -1; what <= 3; what++) {
                int it = what;
                badHere("leader(" + l + ", " + what + ")", y -> y.leader(l, it));
            }
        }
    }

    private static void far() {
        Edge.says("far: FAR (0 to itself). BAD");
        FeastMarch x = Edge.busy();
        Edge.due("far(0, 3)", x.far(0, 3), 5);
        Edge.due("far(3, 0)", x.far(3, 0), 5);
        Edge.due("far(3, 3)", x.far(3, 3), 0);
        for (int c : Edge.beyond(0, 3)) {
            badHere("far(" + c + ", 0)", y -> y.far(c, 0));
            badHere("far(0, " + c + ")", y -> y.far(0, c));
            badHere("far(" + c + ", 3)", y -> y.far(c, 3));
            badHere("far(3, " + c + ")", y -> y.far(3, c));
            badHere("far(" + c + ", " + c + ")", y -> y.far(c, c));
        }
    }

    private static void leads() {
        Edge.says("leads: BAD; STATE: he LED");
        for (int l = 0; l <= 2; l++) {
            Edge.due("leads(" + l + ")", Edge.told(Edge.SQUARE).leads(l), l == 1 ? 1 : l == 0 ? 2 : 3);
        }
        for (int l : Edge.beyond(0, 2)) {
            badHere("leads(" + l + ")", x -> x.leads(l));
        }
        Edge.due("leads(5)", Edge.told("c1;" + "l0 1;".repeat(6)).leads(5), 0);
        Edge.due("leads(6)", Edge.told("c1;" + "l0 1;".repeat(6)).leads(6), Edge.BAD);
        Edge.due("leads(0) of none", Edge.told("c1;").leads(0), Edge.BAD);
    }

    private static void shuts() {
        Edge.says("shuts: SHUT (1), opened (0). BAD; STATE: it is so");
        for (int s = 0; s <= 3; s++) {
            FeastMarch x = Edge.told(Edge.SQUARE);
            Edge.due("shuts(" + s + ", 1)", x.shuts(s, 1), 1);
            Edge.due("shuts(" + s + ", 0)", x.shuts(s, 0), 0);
            for (int is : Edge.beyond(0, 1)) {
                int it = s;
                badHere("shuts(" + s + ", " + is + ")", y -> y.shuts(it, is));
            }
        }
        for (int s : Edge.beyond(0, 3)) {
            for (int is = -1; is <= 2; is++) {
                int it = is;
                badHere("shuts(" + s + ", " + is + ")", y -> y.shuts(s, it));
            }
        }
    }

    private static void now() {
        Edge.says("now: 0 where the march is, 1 the HOUR, 2 FINES, 3 who LED, 4 walked, 5 SHUT. BAD");
        int[] want = {2, 6, 0, 5, 12, 2};
        FeastMarch x = Edge.busy();
        for (int what = 0; what <= 5; what++) {
            Edge.due("now(" + what + ")", x.now(what), want[what]);
        }
        for (int what : Edge.beyond(0, 5)) {
            bad("now(" + what + ")", y -> y.now(what));
        }
        FeastMarch last = Edge.told("c2;" + "s0 1 1;".repeat(12) + "l1 1;".repeat(6));
        last.shuts(11, 1);
        last.leads(5);
        Edge.due("now(5), the last street", last.now(5), 2048);
        Edge.due("now(3), the last leader", last.now(3), 32);
    }

    private static void order() {
        Edge.says("order: i = -1, -2, -3; who is the i-th; BAD (i -3 .. 5)");
        FeastMarch x = Edge.busy();
        // 1 alone is left, with one foot: from 2 to 3, the street to 1 being shut.
        int[] want = {1, 0, 0, 1, Edge.NONE, Edge.NONE, Edge.NONE, Edge.NONE, Edge.NONE};
        Edge.due("order(-3)", x.order(-3), want[0]);
        for (int i = -2; i <= 5; i++) {
            Edge.due("order(" + i + ")", x.order(i), want[i + 3]);
        }
        for (int i : Edge.beyond(-3, 5)) {
            bad("order(" + i + ")", y -> y.order(i));
        }
    }

    private static void most() {
        Edge.says("most: how many (i = -1), the i-th; BAD (i -1 .. 5)");
        FeastMarch x = Edge.busy();
        int[] want = {2, 1, Edge.NONE, Edge.NONE, Edge.NONE, Edge.NONE, Edge.NONE};
        for (int i = -1; i <= 5; i++) {
            Edge.due("most(" + i + ")", x.most(i), want[i + 1]);
        }
        for (int i : Edge.beyond(-1, 5)) {
            bad("most(" + i + ")", y -> y.most(i));
        }
    }

    private static void rows() {
        Edge.says("rows: 0 NEVER, 1 ENDS, 2 HAPPY, 3 BREAD, the fewest, 4 the most, 5 HIDES. BAD");
        FeastMarch x = Edge.busy();
        int[] want = {3, 8, 0, 1, 1, 0};
        for (int what = 0; what <= 5; what++) {
            Edge.due("rows(" + what + ")", x.rows(what), want[what]);
        }
        for (int what : Edge.beyond(0, 5)) {
            bad("rows(" + what + ")", y -> y.rows(what));
        }
    }

    private static void saw() {
        Edge.says("saw: the k-th (0 .. 5), a CORNER. BAD; FULL");
        for (int k = 0; k <= 5; k++) {
            for (int c = 0; c <= 3; c++) {
                Edge.due("saw(" + k + ", " + c + ")", Edge.busy().saw(k, c), 2);
            }
            for (int c : Edge.beyond(0, 3)) {
                int it = k;
                badHere("saw(" + k + ", " + c + ")", y -> y.saw(it, c));
            }
        }
        for (int k : Edge.beyond(0, 5)) {
            for (int c = -1; c <= 4; c++) {
                int it = c;
                badHere("saw(" + k + ", " + c + ")", y -> y.saw(k, it));
            }
        }
        Edge.due("saw(5, 7)", Edge.told("c8;").saw(5, 7), 1);
        Edge.due("saw(5, 8)", Edge.told("c8;").saw(5, 8), Edge.BAD);
    }

    private static void fits() {
        Edge.says("fits: how many (k = -1), who surely leads as k-th; BAD (k -1 .. 5)");
        FeastMarch x = Edge.busy();
        int[] want = {1, 1, Edge.NONE, Edge.NONE, Edge.NONE, Edge.NONE, Edge.NONE};
        for (int k = -1; k <= 5; k++) {
            Edge.due("fits(" + k + ")", x.fits(k), want[k + 1]);
        }
        for (int k : Edge.beyond(-1, 5)) {
            bad("fits(" + k + ")", y -> y.fits(k));
        }
    }

    private static void plans() {
        Edge.says("plans: a LEADER (who LED, too). BAD; FULL");
        for (int l = 0; l <= 2; l++) {
            Edge.due("plans(" + l + ")", Edge.busy().plans(l), 3);
        }
        for (int l : Edge.beyond(0, 2)) {
            badHere("plans(" + l + ")", y -> y.plans(l));
        }
        Edge.due("plans(5)", Edge.told("c1;" + "l0 1;".repeat(6)).plans(5), 1);
        Edge.due("plans(6)", Edge.told("c1;" + "l0 1;".repeat(6)).plans(6), Edge.BAD);
    }

    private static void planned() {
        Edge.says("planned: where it ends (what = 0), HOURS (1), FINES (2), how many led (3). BAD");
        FeastMarch x = Edge.busy();
        int[] want = {3, 1, 0, 1};
        for (int what = 0; what <= 3; what++) {
            Edge.due("planned(" + what + ")", x.planned(what), want[what]);
        }
        for (int what : Edge.beyond(0, 3)) {
            bad("planned(" + what + ")", y -> y.planned(what));
        }
    }

    private static void odds() {
        Edge.says("odds: by x (0 .. 10); upper (what = 0), lower number (1). BAD");
        FeastMarch x = Edge.busy();
        for (int faints = 0; faints <= 10; faints++) {
            Edge.due("odds(" + faints + ", 0)", x.odds(faints, 0), 0);
            Edge.due("odds(" + faints + ", 1)", x.odds(faints, 1), 1);
            for (int what : Edge.beyond(0, 1)) {
                int it = faints;
                bad("odds(" + faints + ", " + what + ")", y -> y.odds(it, what));
            }
        }
        for (int faints : Edge.beyond(0, 10)) {
            for (int what = -1; what <= 2; what++) {
                int it = what;
                bad("odds(" + faints + ", " + what + ")", y -> y.odds(faints, it));
            }
        }
    }

    private static void mark() {
        Edge.says("mark: NO: BAD");
        for (int kind = 0; kind <= 5; kind++) {
            int it = kind;
            FeastMarch x = Edge.told("c2;" + "s0 1 4;".repeat(12));
            int[] want = {4, 4, 3, 8, 3, 4};
            Edge.due("mark(" + kind + ", 0)", x.mark(kind, 0), want[kind]);
            Edge.due("mark(" + kind + ", 11)", x.mark(kind, 11), want[kind]);
            long before = x.trace();
            Edge.due("mark(" + kind + ", 12)", x.mark(kind, 12), Edge.NO);
            Edge.due("mark(" + kind + ", -1)", x.mark(kind, -1), Edge.NO);
            Edge.due("trace(): refused, nothing comes to it", x.trace(), before);
            Edge.refused(FeastMarch::new, "mark(" + kind + ", 0)", y -> y.mark(it, 0), Edge.NO);
        }
    }

    private static void count() {
        Edge.says("count: 0 CORNERS, 1 STREETS, 2 LEADERS, 3 SEEN, 4 in PLAN, 5 UNDONE, 6 bytes of THE TEXT. BAD");
        FeastMarch x = Edge.busy("c2;s");
        int[] want = {4, 4, 3, 1, 2, 3, 4};
        for (int what = 0; what <= 6; what++) {
            Edge.due("count(" + what + ")", x.count(what), want[what]);
        }
        for (int what : Edge.beyond(0, 6)) {
            bad("count(" + what + ")", y -> y.count(what));
        }
    }

    private static void noCorners() {
        Edge.says("BAD: there is no such thing (no CORNERS)");
        for (int n = -1; n <= 1; n++) {
            for (int m = -1; m <= 1; m++) {
                int a = n;
                int b = m;
                Edge.refused(FeastMarch::new, "street(" + n + ", " + m + ")", x -> x.street(a, b), Edge.BAD);
                Edge.refused(FeastMarch::new, "leader(" + n + ", " + m + ")", x -> x.leader(a, b), Edge.BAD);
                Edge.refused(FeastMarch::new, "far(" + n + ", " + m + ")", x -> x.far(a, b), Edge.BAD);
                Edge.refused(FeastMarch::new, "shuts(" + n + ", " + m + ")", x -> x.shuts(a, b), Edge.BAD);
                Edge.refused(FeastMarch::new, "saw(" + n + ", " + m + ")", x -> x.saw(a, b), Edge.BAD);
            }
            int a = n;
            Edge.refused(FeastMarch::new, "leads(" + n + ")", x -> x.leads(a), Edge.BAD);
            Edge.refused(FeastMarch::new, "plans(" + n + ")", x -> x.plans(a), Edge.BAD);
        }
    }

    private static void everyRefusalInOneRun() {
        Edge.says("Refused, and nothing changes, the first of these: BAD, STATE, FULL");
        FeastMarch x = Edge.busy();
        x.type(-1);
        x.street(4, 0);
        x.leader(0, 3);
        x.far(0, 4);
        x.leads(3);
        x.leads(0);
        x.shuts(4, 1);
        x.shuts(1, 1);
        x.shuts(0, 0);
        x.now(6);
        x.order(6);
        x.most(6);
        x.rows(6);
        x.saw(6, 0);
        x.saw(0, 4);
        x.fits(6);
        x.plans(3);
        x.planned(4);
        x.odds(11, 0);
        x.odds(0, 2);
        x.mark(6, 0);
        x.mark(0, 4);
        x.keep(2);
        x.back(2);
        x.count(7);
        Edge.same("all of them refused", x, Edge.busy());
        // What is BAD is told so, though it would be STATE, too: 1 is shut, 0 led.
        Edge.due("shuts(1, 2)", Edge.busy().shuts(1, 2), Edge.BAD);
        Edge.due("back(-1)", new FeastMarch().back(-1), Edge.BAD);
    }
}
