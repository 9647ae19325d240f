/** The bounds of what is done: LED, SHUT, UNDONE, KINDS, IMAGES, a city read anew; a sentence at a time. */
public final class EdgesOfMarch {
    /** Corner n is n streets of one hour from the door. */
    private static final String LINE = "c8;s0 1 1;s1 2 1;s2 3 1;s3 4 1;s4 5 1;s5 6 1;s6 7 1;";

    public static void main(String[] args) {
        farNoWay();
        farToItself();
        farWhateverIsShut();
        farMost();
        atFirst();
        asOftenAsFeet();
        notOnFromHome();
        beginsAtHome();
        notShut();
        notTakenThatWay();
        leastFar();
        theShortest();
        theLeastNumber();
        stands();
        standsNot();
        behindItHeLed();
        shutAndOpened();
        undoneAsAhead();
        tenAreKnown();
        refusedAreNotKnown();
        kinds();
        kindsBelow0();
        traceOfAllCalls();
        images();
        imagesKeepUndone();
        imagesNothingElse();
        readAnew();
        Edge.end();
    }

    private static FeastMarch line(String leaders) {
        return Edge.told(LINE + leaders);
    }

    private static void now(FeastMarch x, int at, int hour, int fines, int led, int walked, int shut) {
        int[] want = {at, hour, fines, led, walked, shut};
        for (int what = 0; what <= 5; what++) {
            Edge.due("now(" + what + ")", x.now(what), want[what]);
        }
    }

    private static void farNoWay() {
        Edge.says("FAR; 99: no way");
        FeastMarch x = Edge.told("c5;s0 1 9;s2 3 1;");
        int[][] want = {{0, 9, 99, 99, 99}, {9, 0, 99, 99, 99}, {99, 99, 0, 1, 99}, {99, 99, 1, 0, 99}, {99, 99, 99, 99, 0}};
        for (int a = 0; a < 5; a++) {
            for (int b = 0; b < 5; b++) {
                Edge.due("far(" + a + ", " + b + ")", x.far(a, b), want[a][b]);
            }
        }
        Edge.due("far(0, 1)", Edge.told("c2;").far(0, 1), 99);
        Edge.due("far(0, 7)", Edge.told("c8;s0 1 1;s6 7 1;").far(0, 7), 99);
    }

    private static void farToItself() {
        Edge.says("FAR (0 to itself)");
        FeastMarch x = Edge.told("c8;s0 1 1;s1 0 1;s7 6 9;");
        for (int c = 0; c < 8; c++) {
            Edge.due("far(" + c + ", " + c + ")", x.far(c, c), 0);
        }
        Edge.due("far(8, 8)", x.far(8, 8), Edge.BAD);
        Edge.due("far(-1, -1)", x.far(-1, -1), Edge.BAD);
        Edge.due("far(0, 0) of no corners", new FeastMarch().far(0, 0), Edge.BAD);
    }

    private static void farWhateverIsShut() {
        Edge.says("FAR: the fewest HOURS by STREETS, whatever is shut or taken");
        FeastMarch x = Edge.told("c3;s0 1 4;s1 2 3;s0 2 9;l2 2;l0 2;");
        for (int n = 0; n < 4; n++) {
            Edge.due("far(0, 2)", x.far(0, 2), 7);
            Edge.due("far(2, 0)", x.far(2, 0), 7);
            Edge.due("far(1, 2)", x.far(1, 2), 3);
            if (n == 0) {
                x.leads(0);
            } else if (n == 1) {
                x.leads(1);
            } else {
                x.shuts(0, 1);
                x.shuts(1, 1);
                x.shuts(2, 1);
            }
        }
    }

    private static void farMost() {
        Edge.says("FAR: the fewest HOURS; of the longest way, 63, there is one");
        FeastMarch x = Edge.told("c8;s7 6 9;s5 6 9;s5 4 9;s3 4 9;s3 2 9;s1 2 9;s1 0 9;");
        for (int a = 0; a < 8; a++) {
            for (int b = 0; b < 8; b++) {
                Edge.due("far(" + a + ", " + b + ")", x.far(a, b), Math.abs(a - b) * 9);
            }
        }
        FeastMarch twice = Edge.told("c2;s0 1 9;s1 0 1;s0 1 5;");
        Edge.due("far(0, 1) by the shortest of several", twice.far(0, 1), 1);
        Edge.due("far(1, 0)", twice.far(1, 0), 1);
        FeastMarch around = Edge.told("c3;s0 1 5;s0 2 2;s2 1 3;");
        Edge.due("far(0, 1): both ways are as far", around.far(0, 1), 5);
        FeastMarch door = Edge.told("c3;s0 1 2;s2 0 3;");
        Edge.due("far(1, 2) by the door", door.far(1, 2), 5);
        Edge.due("far(2, 1) by the door", door.far(2, 1), 5);
        FeastMarch nearer = Edge.told("c3;s0 1 5;s0 2 2;s2 1 2;");
        Edge.due("far(0, 1): two streets are less far", nearer.far(0, 1), 4);
    }

    private static void atFirst() {
        Edge.says("The march is at THE DOOR at first, HOUR 0, no FINES, nobody LED, no STREET is TAKEN, none is SHUT");
        FeastMarch x = Edge.told(Edge.SQUARE);
        now(x, 0, 0, 0, 0, 0, 0);
        for (int s = 0; s < 4; s++) {
            Edge.due("street(" + s + ", 3)", x.street(s, 3), 0);
            Edge.due("street(" + s + ", 4)", x.street(s, 4), 0);
        }
        for (int l = 0; l < 3; l++) {
            Edge.due("leader(" + l + ", 2)", x.leader(l, 2), 0);
        }
        Edge.due("undo()", x.undo(), Edge.STATE);
        Edge.due("back(0)", x.back(0), Edge.STATE);
        Edge.due("back(1)", x.back(1), Edge.STATE);
        now(new FeastMarch(), Edge.NONE, 0, 0, 0, 0, 0);
    }

    private static void asOftenAsFeet() {
        Edge.says("LED: as often as he has FEET");
        for (int feet = 1; feet <= 5; feet++) {
            FeastMarch x = line("l7 " + feet + ";l7 5;");
            Edge.due("leads(0) with " + feet, x.leads(0), feet);
            now(x, feet, feet, 0, 1, (1 << feet) - 1, 0);
            Edge.due("leads(1): on, to his home at most", x.leads(1), Math.min(7, feet + 5));
        }
    }

    private static void notOnFromHome() {
        Edge.says("LED: but not on from his HOME, once there");
        for (int home = 1; home <= 7; home++) {
            FeastMarch x = line("l" + home + " 5;");
            int end = Math.min(home, 5);
            Edge.due("leads(0) to " + home, x.leads(0), end);
            now(x, end, end, 0, 1, (1 << end) - 1, 0);
        }
    }

    private static void beginsAtHome() {
        Edge.says("LED: if it is there as he begins he leads it away, as to anywhere");
        FeastMarch one = Edge.told("c2;s0 1 1;l0 1;");
        Edge.due("leads(0) with one foot", one.leads(0), 1);
        FeastMarch two = Edge.told("c2;s0 1 1;l0 2;");
        Edge.due("leads(0) with two: there and back", two.leads(0), 0);
        now(two, 0, 2, 0, 1, 1, 0);
        FeastMarch five = Edge.told("c2;s0 1 1;s0 1 1;l0 5;");
        Edge.due("leads(0) with five: home again he stays", five.leads(0), 0);
        now(five, 0, 2, 0, 1, 1, 0);
        // To 2 and to 1 it is as far from his home as the street is long: to 2.
        FeastMarch near = Edge.told("c3;s0 1 2;s0 2 1;l0 1;");
        Edge.due("leads(0): to where his home is least far from", near.leads(0), 2);
        FeastMarch behind = line("l3 5;l3 1;l3 2;");
        behind.leads(0);
        Edge.due("leads(1): another one whose home it is", behind.leads(1), 2);
        Edge.due("leads(2): the way there is taken, so on to the door", behind.leads(2), 0);
    }

    private static void notShut() {
        Edge.says("LED: of all STREETS that are not SHUT");
        for (int shut = 0; shut <= 2; shut++) {
            FeastMarch x = Edge.told("c2;s0 1 1;s1 0 2;s0 1 3;l1 1;l0 1;");
            x.shuts(shut, 1);
            x.leads(0);
            Edge.due("now(4) with " + shut + " shut", x.now(4), shut == 0 ? 2 : 1);
            x.leads(1);
            Edge.due("now(4): back, too", x.now(4), shut == 0 ? 2 : 1);
            Edge.due("now(0)", x.now(0), 0);
        }
        FeastMarch all = Edge.told("c2;s0 1 1;s1 0 2;l1 1;l1 1;");
        all.shuts(0, 1);
        all.shuts(1, 1);
        all.leads(0);
        now(all, 0, 0, 1, 1, 0, 3);
        all.shuts(1, 0);
        all.leads(1);
        now(all, 1, 2, 1, 3, 2, 1);
        // What is shut behind it bars the way back, too.
        FeastMarch back = Edge.told("c2;s0 1 1;l1 1;l0 1;");
        back.leads(0);
        back.shuts(0, 1);
        back.leads(1);
        now(back, 1, 1, 1, 3, 1, 1);
        FeastMarch last = Edge.told("c2;" + "s0 1 1;".repeat(11) + "s1 0 9;l1 1;");
        for (int s = 0; s < 11; s++) {
            last.shuts(s, 1);
        }
        last.leads(0);
        now(last, 1, 9, 0, 1, 2048, 2047);
    }

    private static void notTakenThatWay() {
        Edge.says("LED: not TAKEN that way (each has two ways, from its first CORNER and from its second one)");
        for (String street : new String[] {"0 1", "1 0"}) {
            FeastMarch x = Edge.told("c2;s" + street + " 1;l1 1;l0 1;l1 1;");
            int out = street.equals("0 1") ? 1 : 2;
            Edge.due("street(0, 3)", x.street(0, 3), 0);
            x.leads(0);
            Edge.due("street(0, 3): taken out", x.street(0, 3), out);
            x.leads(1);
            Edge.due("street(0, 3): and back", x.street(0, 3), 3);
            now(x, 0, 2, 0, 3, 1, 0);
            x.leads(2);
            Edge.due("street(0, 3)", x.street(0, 3), 3);
            now(x, 0, 2, 1, 7, 1, 0);
        }
        FeastMarch twelve = Edge.told("c2;" + "s0 1 1;".repeat(12) + "l1 5;l0 5;l1 5;l0 5;l1 5;l0 5;");
        for (int l = 0; l < 6; l++) {
            twelve.leads(l);
        }
        now(twelve, 0, 6, 0, 63, 7, 0);
        // 24 ways: by each street out and back, then none is left.
        FeastMarch all = Edge.told("c3;" + "s0 1 1;".repeat(12) + "l2 5;l2 5;l2 5;l2 5;l2 4;l2 5;");
        for (int l = 0; l < 5; l++) {
            all.leads(l);
        }
        now(all, 0, 24, 0, 31, 4095, 0);
        all.leads(5);
        now(all, 0, 24, 1, 63, 4095, 0);
    }

    private static void leastFar() {
        Edge.says("LED: that whose other CORNER is least FAR from his HOME");
        FeastMarch x = Edge.told("c4;s0 1 1;s1 3 3;s0 2 9;s2 3 2;l3 1;");
        Edge.due("leads(0): 2, by the longer street", x.leads(0), 2);
        FeastMarch home = Edge.told("c3;s0 1 1;s1 2 1;s0 2 9;l2 2;");
        Edge.due("leads(0): his home itself is 0 far", home.leads(0), 2);
        Edge.due("now(1)", home.now(1), 9);
        FeastMarch none = Edge.told("c4;s0 1 2;s0 2 1;l3 1;");
        Edge.due("leads(0): no way is 99 far, by whichever; the shortest", none.leads(0), 2);
        FeastMarch shut = Edge.told("c4;s0 1 1;s1 3 1;s0 2 1;s2 3 5;l3 1;");
        shut.shuts(1, 1);
        Edge.due("leads(0): far, whatever is shut", shut.leads(0), 1);
        FeastMarch most = Edge.told("c8;s0 1 9;s1 2 9;s2 3 9;s3 4 9;s4 5 9;s5 6 9;s6 7 9;s0 7 1;l6 1;");
        Edge.due("leads(0): by the short cut", most.leads(0), 7);
    }

    private static void theShortest() {
        Edge.says("LED: of several the shortest");
        FeastMarch x = Edge.told("c2;s0 1 3;s0 1 2;s1 0 1;s0 1 4;l1 1;");
        x.leads(0);
        Edge.due("now(4)", x.now(4), 4);
        FeastMarch corners = Edge.told("c4;s0 1 5;s0 2 4;s1 3 2;s2 3 2;l3 1;");
        Edge.due("leads(0): of two corners as far", corners.leads(0), 2);
    }

    private static void theLeastNumber() {
        Edge.says("LED: of these the least number");
        FeastMarch x = Edge.told("c2;s0 1 3;s1 0 2;s0 1 2;s0 1 2;l1 1;l0 1;");
        x.leads(0);
        Edge.due("now(4)", x.now(4), 2);
        x.leads(1);
        Edge.due("street(1, 3): its other way is not taken", x.street(1, 3), 3);
        FeastMarch corners = Edge.told("c4;s0 2 4;s0 1 4;s1 3 2;s2 3 2;l3 1;");
        Edge.due("leads(0): by the street's number, not the corner's", corners.leads(0), 2);
    }

    private static void stands() {
        Edge.says("If there is none, it STANDS: a FINE, and he leads no more");
        for (int feet = 1; feet <= 5; feet++) {
            FeastMarch x = Edge.told("c2;l1 " + feet + ";");
            Edge.due("leads(0)", x.leads(0), 0);
            now(x, 0, 0, 1, 1, 0, 0);
        }
        FeastMarch way = Edge.told("c3;s0 1 1;l2 5;");
        Edge.due("leads(0): there and back, then it stands", way.leads(0), 0);
        now(way, 0, 2, 1, 1, 1, 0);
        FeastMarch home = Edge.told("c2;l0 1;");
        Edge.due("leads(0) from his home", home.leads(0), 0);
        now(home, 0, 0, 1, 1, 0, 0);
        FeastMarch six = Edge.told("c1;" + "l0 1;".repeat(6));
        for (int l = 0; l < 6; l++) {
            six.leads(l);
            Edge.due("now(2)", six.now(2), l + 1);
        }
    }

    private static void standsNot() {
        Edge.says("it STANDS only if he would lead on");
        FeastMarch feet = Edge.told("c3;s0 1 1;l2 2;");
        feet.leads(0);
        now(feet, 0, 2, 0, 1, 1, 0);
        FeastMarch home = Edge.told("c2;s0 1 1;l1 1;l0 5;");
        home.leads(0);
        home.leads(1);
        now(home, 0, 2, 0, 3, 1, 0);
    }

    private static void behindItHeLed() {
        Edge.says("Behind it he LED; leads: STATE: he LED");
        FeastMarch x = Edge.told("c1;l0 1;l0 1;");
        x.leads(1);
        Edge.due("leader(1, 2): it stood", x.leader(1, 2), 1);
        Edge.due("leader(0, 2)", x.leader(0, 2), 0);
        Edge.due("now(3)", x.now(3), 2);
        Edge.refused(Edge::busy, "leads(0) again", y -> y.leads(0), Edge.STATE);
        Edge.refused(Edge::busy, "leads(2) again", y -> y.leads(2), Edge.STATE);
        Edge.due("leads(1), who did not", Edge.busy().leads(1), 3);
        FeastMarch six = Edge.told("c1;" + "l0 1;".repeat(6));
        for (int l = 0; l < 6; l++) {
            Edge.due("leads", six.leads(l), 0);
            Edge.due("leads again", six.leads(l), Edge.STATE);
            Edge.due("now(3)", six.now(3), (1 << l + 1) - 1);
        }
    }

    private static void shutAndOpened() {
        Edge.says("SHUT, opened: how many are SHUT; STATE: it is so");
        FeastMarch x = Edge.told("c2;" + "s0 1 1;".repeat(12));
        for (int s = 0; s < 12; s++) {
            Edge.due("shuts(s, 0), open", x.shuts(s, 0), Edge.STATE);
            Edge.due("shuts(s, 1)", x.shuts(s, 1), s + 1);
            Edge.due("shuts(s, 1), shut", x.shuts(s, 1), Edge.STATE);
            Edge.due("street(s, 4)", x.street(s, 4), 1);
            Edge.due("now(5)", x.now(5), (2 << s) - 1);
        }
        for (int s = 11; s >= 0; s--) {
            Edge.due("shuts(s, 0)", x.shuts(s, 0), s);
            Edge.due("shuts(s, 0), open", x.shuts(s, 0), Edge.STATE);
            Edge.due("street(s, 4)", x.street(s, 4), 0);
            Edge.due("now(5)", x.now(5), (1 << s) - 1);
        }
        Edge.refused(Edge::busy, "shuts(1, 1), shut", y -> y.shuts(1, 1), Edge.STATE);
        Edge.refused(Edge::busy, "shuts(0, 0), open", y -> y.shuts(0, 0), Edge.STATE);
        Edge.refused(Edge::busy, "shuts(3, 0), open", y -> y.shuts(3, 0), Edge.STATE);
    }

    private static void undoneAsAhead() {
        Edge.says("UNDONE: the latest LED, SHUT, opened: all is as ahead of it");
        FeastMarch led = Edge.busy();
        led.leads(1);
        Edge.due("undo() of leads(1)", led.undo(), 3);
        Edge.same("leads(1) is undone", led, Edge.busy());
        FeastMarch shut = Edge.busy();
        shut.shuts(2, 1);
        Edge.due("undo() of shuts(2, 1)", shut.undo(), 3);
        Edge.same("shuts(2, 1) is undone", shut, Edge.busy());
        FeastMarch open = Edge.busy();
        open.shuts(1, 0);
        Edge.due("undo() of shuts(1, 0)", open.undo(), 3);
        Edge.same("shuts(1, 0) is undone", open, Edge.busy());
        FeastMarch three = Edge.busy();
        three.shuts(1, 0);
        three.leads(1);
        three.shuts(0, 1);
        Edge.due("undo()", three.undo(), 5);
        Edge.due("undo()", three.undo(), 4);
        Edge.due("undo()", three.undo(), 3);
        Edge.same("three are undone", three, Edge.busy());
        FeastMarch stood = Edge.told("c3;s0 1 1;l2 5;");
        stood.leads(0);
        Edge.due("undo() of where it stood", stood.undo(), 0);
        Edge.same("leads(0), by whom it stood, is undone", stood, Edge.told("c3;s0 1 1;l2 5;"));
    }

    private static void tenAreKnown() {
        Edge.says("10 are known, older ones are lost");
        for (int done = 0; done <= 12; done++) {
            FeastMarch x = Edge.told("c2;" + "s0 1 1;".repeat(12));
            for (int s = 0; s < done; s++) {
                Edge.due("count(5) ahead of " + s, x.count(5), Math.min(10, s));
                x.shuts(s, 1);
            }
            int known = Math.min(10, done);
            for (int n = 1; n <= known; n++) {
                Edge.due("undo() of " + done, x.undo(), known - n);
                Edge.due("now(5)", x.now(5), (1 << done - n) - 1);
            }
            Edge.due("undo() of " + done + ": none is known", x.undo(), Edge.STATE);
            Edge.due("now(5): older ones stay", x.now(5), (1 << done - known) - 1);
            Edge.due("count(5)", x.count(5), 0);
        }
        // Of each kind one, eleven in all: the first, a leader's, is lost.
        FeastMarch mixed = Edge.told("c2;s0 1 2;s0 1 3;l1 1;l0 1;l1 1;l0 1;");
        mixed.leads(0);
        for (int n = 0; n < 8; n++) {
            mixed.shuts(1, 1 - n % 2);
        }
        mixed.leads(1);
        mixed.leads(2);
        now(mixed, 1, 7, 0, 7, 3, 0);
        for (int left = 9; left >= 0; left--) {
            Edge.due("undo()", mixed.undo(), left);
        }
        now(mixed, 1, 2, 0, 1, 1, 0);
        Edge.refused(() -> Edge.told(Edge.SQUARE), "undo() of nothing", x -> x.undo(), Edge.STATE);
        Edge.refused(FeastMarch::new, "undo() of a new object", x -> x.undo(), Edge.STATE);
        FeastMarch again = Edge.told("c2;s0 1 1;l1 1;");
        again.leads(0);
        again.undo();
        Edge.due("undo() of what is undone", again.undo(), Edge.STATE);
        Edge.due("leads(0) anew", again.leads(0), 1);
        Edge.due("undo()", again.undo(), 0);
    }

    private static void refusedAreNotKnown() {
        Edge.says("Refused, and nothing changes: nothing to be UNDONE comes of it");
        FeastMarch x = Edge.busy();
        Edge.due("count(5)", x.count(5), 3);
        x.leads(0);
        x.leads(3);
        x.shuts(1, 1);
        x.shuts(4, 1);
        x.shuts(0, 2);
        x.back(2);
        Edge.due("count(5)", x.count(5), 3);
        Edge.due("undo()", x.undo(), 2);
    }

    private static void kinds() {
        Edge.says("KINDS: 0 STREET, 1 ALLEY, 2 BRIDGE, 3 COURT, 4 QUAY, 5 LANE; (numbers in brackets come to THE TRACE)");
        int[] trace = {1, 11, 101, 1011, 10101, 100001};
        FeastMarch x = Edge.busy();
        // Street 2 (2 3, one hour) is taken one way; the hour is 6, no fines.
        int[] want = {1, 2, -2, 4, -2, 7};
        for (int kind = 0; kind <= 5; kind++) {
            long before = x.trace();
            Edge.due("mark(" + kind + ", 2)", x.mark(kind, 2), want[kind]);
            Edge.due("trace()", x.trace() - before, trace[kind]);
        }
        for (int kind : Edge.beyond(0, 5)) {
            Edge.refused(Edge::busy, "mark(" + kind + ", 0)", y -> y.mark(kind, 0), Edge.NO);
            Edge.refused(Edge::busy, "mark(" + kind + ", 4)", y -> y.mark(kind, 4), Edge.NO);
        }
        for (int s : Edge.beyond(0, 3)) {
            for (int kind = 0; kind <= 5; kind++) {
                int is = kind;
                Edge.refused(Edge::busy, "mark(" + kind + ", " + s + ")", y -> y.mark(is, s), Edge.NO);
            }
        }
        Edge.refused(FeastMarch::new, "mark(0, 0) of no corners", y -> y.mark(0, 0), Edge.NO);
    }

    private static void kindsBelow0() {
        Edge.says("MARK, where a number may be below 0");
        FeastMarch x = Edge.told("c8;s0 7 1;s7 0 9;l7 1;l0 1;l7 1;l0 1;l7 1;l7 1;");
        Edge.due("mark(2, 0), the least", x.mark(2, 0), -6);
        Edge.due("mark(4, 0)", x.mark(4, 0), -6);
        Edge.due("mark(2, 1), the most", x.mark(2, 1), 9);
        Edge.due("mark(1, 0): taken no way", x.mark(1, 0), 1);
        x.leads(0);
        Edge.due("mark(1, 0): taken one way", x.mark(1, 0), 2);
        Edge.due("mark(1, 1)", x.mark(1, 1), 9);
        x.leads(1);
        Edge.due("mark(1, 0): taken both ways", x.mark(1, 0), 3);
        Edge.due("mark(3, 0)", x.mark(3, 0), 6);
        x.leads(2);
        x.leads(3);
        Edge.due("mark(3, 1)", x.mark(3, 1), 22);
        Edge.due("mark(5, 1)", x.mark(5, 1), 29);
        x.leads(4);
        x.leads(5);
        Edge.due("mark(4, 0): two fines", x.mark(4, 0), -4);
        Edge.due("mark(2, 0): no fines", x.mark(2, 0), -6);
    }

    private static void traceOfAllCalls() {
        Edge.says("THE TRACE (0 at first; of all calls ever, together)");
        Edge.due("trace() of a new object", new FeastMarch().trace(), 0);
        FeastMarch x = Edge.busy("c2;s0 1 1;");
        Edge.due("trace()", x.trace(), 100001);
        x.mark(4, 0);
        Edge.due("trace()", x.trace(), 110102);
        x.undo();
        x.back(0);
        Edge.due("trace() behind undo() and back()", x.trace(), 110102);
        x.city();
        Edge.due("trace() behind city()", x.trace(), 110102);
        x.mark(3, 0);
        Edge.due("trace() goes on", x.trace(), 111113);
        Edge.due("trace() again", x.trace(), 111113);
    }

    private static void images() {
        Edge.says("IMAGES 0, 1; keep: BAD; back: BAD; STATE: none was kept");
        for (int image : Edge.beyond(0, 1)) {
            Edge.refused(Edge::busy, "keep(" + image + ")", x -> x.keep(image), Edge.BAD);
            Edge.refused(Edge::busy, "back(" + image + ")", x -> x.back(image), Edge.BAD);
            Edge.due("back(" + image + "), none kept: BAD is ahead of STATE", new FeastMarch().back(image), Edge.BAD);
        }
        for (int image = 0; image <= 1; image++) {
            int it = image;
            Edge.refused(() -> Edge.told(Edge.SQUARE), "back(" + it + ")", x -> x.back(it), Edge.STATE);
            FeastMarch x = Edge.told(Edge.SQUARE);
            x.leads(2);
            Edge.due("keep(" + it + ")", x.keep(it), 5);
            Edge.due("back(" + (1 - it) + "): the other one was not kept", x.back(1 - it), Edge.STATE);
            x.leads(0);
            x.shuts(0, 1);
            Edge.due("back(" + it + ")", x.back(it), 5);
            now(x, 3, 5, 0, 4, 8, 0);
            Edge.due("street(2, 3)", x.street(2, 3), 0);
            Edge.due("street(3, 3): from its second corner", x.street(3, 3), 2);
            x.leads(0);
            Edge.due("back(" + it + ") again", x.back(it), 5);
            now(x, 3, 5, 0, 4, 8, 0);
            x.leads(0);
            Edge.due("keep(" + it + ") anew", x.keep(it), 6);
            x.undo();
            Edge.due("back(" + it + ")", x.back(it), 6);
            Edge.due("now(0)", x.now(0), 2);
        }
        FeastMarch asked = Edge.busy();
        Edge.due("rows(1)", asked.rows(1), 8);
        asked.back(0);
        Edge.due("rows(1) behind back(): from now on", asked.rows(1), 6);
        asked.back(1);
        Edge.due("rows(1) behind back()", asked.rows(1), 2);
        FeastMarch stood = Edge.told("c1;l0 1;");
        stood.leads(0);
        stood.keep(1);
        stood.undo();
        stood.back(1);
        now(stood, 0, 0, 1, 1, 0, 0);
        FeastMarch none = new FeastMarch();
        Edge.due("keep(1) of no corners", none.keep(1), 0);
        Edge.due("back(1) of no corners", none.back(1), 0);
        Edge.due("back(0) of no corners", none.back(0), Edge.STATE);
        Edge.due("now(0)", none.now(0), Edge.NONE);
    }

    private static void imagesKeepUndone() {
        Edge.says("IMAGES keep what may be UNDONE");
        for (int done = 0; done <= 12; done++) {
            FeastMarch x = Edge.told("c2;" + "s0 1 1;".repeat(12));
            for (int s = 0; s < done; s++) {
                x.shuts(s, 1);
            }
            x.keep(0);
            for (int s = 0; s < 12; s++) {
                x.shuts(s, s < done ? 0 : 1);
            }
            Edge.due("back(0)", x.back(0), 0);
            int known = Math.min(10, done);
            for (int times = 0; times < 2; times++) {
                Edge.due("count(5)", x.count(5), known);
                Edge.due("now(5)", x.now(5), (1 << done) - 1);
                for (int n = 1; n <= known; n++) {
                    Edge.due("undo() of " + done, x.undo(), known - n);
                    Edge.due("now(5)", x.now(5), (1 << done - n) - 1);
                }
                Edge.due("undo() of " + done, x.undo(), Edge.STATE);
                x.back(0);
            }
        }
        FeastMarch both = Edge.told("c2;s0 1 1;s0 1 1;");
        both.shuts(0, 1);
        both.keep(0);
        both.shuts(1, 1);
        both.keep(1);
        both.back(0);
        Edge.due("count(5) of 0", both.count(5), 1);
        both.shuts(0, 0);
        both.back(1);
        Edge.due("count(5) of 1", both.count(5), 2);
        Edge.due("undo() of 1", both.undo(), 1);
        Edge.due("now(5)", both.now(5), 1);
        both.back(0);
        Edge.due("undo() of 0", both.undo(), 0);
        Edge.due("now(5)", both.now(5), 0);
    }

    private static void imagesNothingElse() {
        Edge.says("IMAGES keep NOW; nothing else");
        FeastMarch kept = Edge.busy();
        Edge.due("keep(1)", kept.keep(1), 6);
        FeastMarch not = Edge.busy();
        Edge.due("count(5): keep() is nothing to be undone", kept.count(5), not.count(5));
        kept.back(1);
        kept.back(0);
        not.back(0);
        Edge.due("count(5)", kept.count(5), not.count(5));
        FeastMarch x = Edge.busy();
        x.back(0);
        Edge.due("count(3): what was seen stays", x.count(3), 1);
        Edge.due("count(4): the plan stays", x.count(4), 2);
        Edge.due("count(6): the text stays", x.count(6), 3);
        Edge.due("trace() stays", x.trace(), 100001);
        x.forget();
        x.drops();
        x.clear();
        x.mark(0, 0);
        Edge.due("back(1): the other image stays", x.back(1), 6);
        Edge.due("count(3)", x.count(3), 0);
        Edge.due("count(4)", x.count(4), 0);
        Edge.due("count(6)", x.count(6), 0);
        Edge.due("trace()", x.trace(), 100002);
        Edge.due("count(0): the city stays", x.count(0), 4);
    }

    private static void readAnew() {
        Edge.says("Read anew: as told, nothing SEEN, no PLAN, nothing to be UNDONE, IMAGES are gone; THE TRACE stays");
        FeastMarch x = Edge.busy(Edge.SQUARE);
        Edge.due("city()", x.city(), 8);
        Edge.same("a city read anew is as one of a new object", x, markedSquare());
        FeastMarch less = Edge.busy("c3;s2 1 9;l1 4;");
        Edge.due("city()", less.city(), 3);
        FeastMarch only = Edge.told("c3;s2 1 9;l1 4;");
        only.mark(5, 0);
        Edge.same("a lesser city read anew is as one of a new object", less, only);
        FeastMarch more = Edge.busy("c8;s0 7 1;l7 5;l6 1;l5 1;l4 1;");
        more.city();
        Edge.due("far(0, 3): of the old city nothing", more.far(0, 3), 99);
        Edge.due("far(0, 7)", more.far(0, 7), 1);
        Edge.due("leader(3, 2)", more.leader(3, 2), 0);
        Edge.due("street(1, 0)", more.street(1, 0), Edge.BAD);
        FeastMarch asked = Edge.busy(Edge.SQUARE);
        Edge.due("rows(3)", asked.rows(3), 1);
        asked.city();
        Edge.same("a city read anew, when the old one's rows were asked, too", asked, markedSquare());
        FeastMarch stood = Edge.told("c1;l0 1;");
        stood.leads(0);
        Edge.due("now(2)", stood.now(2), 1);
        Edge.write(stood, "c1;l0 1;");
        stood.city();
        Edge.same("a city read anew, when there were fines, too", stood, Edge.told("c1;l0 1;"));
        FeastMarch fault = Edge.busy("c8;s0 7 1;l7 5;l8 1;");
        Edge.due("city() with a fault", fault.city(), -26);
        Edge.due("count(0): as it was", fault.count(0), 4);
        Edge.due("far(0, 3)", fault.far(0, 3), 5);
        Edge.due("back(1)", fault.back(1), 6);
    }

    private static FeastMarch markedSquare() {
        FeastMarch x = Edge.told(Edge.SQUARE);
        x.mark(5, 0);
        return x;
    }
}
