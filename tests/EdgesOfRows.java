/** The bounds of what is asked of ROWS, of what was SEEN and of a PLAN, a sentence of the Terms at a time. */
public final class EdgesOfRows {
    /** Corner n is n streets of one hour from the door. */
    private static final String LINE = "c8;s0 1 1;s1 2 1;s2 3 1;s3 4 1;s4 5 1;s5 6 1;s6 7 1;";

    public static void main(String[] args) {
        fromNowOn();
        nothingIsChanged();
        ordersOfAllLeft();
        theLastOfAllRows();
        nobodyLeft();
        noCorners();
        turnedAbout();
        theDoorFirst();
        thenFewestFines();
        thenFewestHours();
        elseOfAll();
        theFirstOfSeveral();
        notSoMany();
        mostStreets();
        mostAheadOfNow();
        never();
        ends();
        happy();
        bread();
        hides();
        seenSixAtMost();
        seenAsTheyLead();
        seenBeyondThose();
        fitsSurely();
        planSixAtMost();
        plannedEachOnce();
        oddsOfNobody();
        oddsByTenths();
        oddsInLeastTerms();
        oddsOfAnOrder();
        Edge.end();
    }

    private static void ask(String call, long[] got, long... want) {
        for (int i = 0; i < want.length; i++) {
            Edge.due(call + ", the " + i + "th", got[i], want[i]);
        }
    }

    /** Whether it ends at the door, fines, hours; who leads, as told. */
    private static void order(FeastMarch x, long... want) {
        ask("order(-1, -2, -3, 0 ..)", new long[] {x.order(-1), x.order(-2), x.order(-3), x.order(0), x.order(1),
            x.order(2), x.order(3), x.order(4), x.order(5)}, want);
    }

    private static void most(FeastMarch x, long... want) {
        ask("most(-1, 0 ..)", new long[] {x.most(-1), x.most(0), x.most(1), x.most(2), x.most(3), x.most(4),
            x.most(5)}, want);
    }

    private static void rows(FeastMarch x, long... want) {
        ask("rows(0 ..)", new long[] {x.rows(0), x.rows(1), x.rows(2), x.rows(3), x.rows(4), x.rows(5)}, want);
    }

    private static void fits(FeastMarch x, long... want) {
        ask("fits(-1, 0 ..)", new long[] {x.fits(-1), x.fits(0), x.fits(1), x.fits(2), x.fits(3), x.fits(4),
            x.fits(5)}, want);
    }

    private static void planned(FeastMarch x, long... want) {
        ask("planned(0 ..)", new long[] {x.planned(0), x.planned(1), x.planned(2), x.planned(3)}, want);
    }

    private static void odds(FeastMarch x, int faints, long upper, long lower) {
        Edge.due("odds(" + faints + ", 0)", x.odds(faints, 0), upper);
        Edge.due("odds(" + faints + ", 1)", x.odds(faints, 1), lower);
    }

    private static void fromNowOn() {
        Edge.says("From NOW on, as STREETS are SHUT now");
        FeastMarch x = Edge.told("c3;s0 1 2;s0 2 3;l1 1;l2 1;l0 1;");
        // By each row to 1, back and to 2.
        Edge.due("rows(3)", x.rows(3), 7);
        x.leads(0);
        Edge.due("rows(3) from 1", x.rows(3), 5);
        x.shuts(1, 1);
        rows(x, 2, 1, 1, 2, 2, 6);
        x.shuts(0, 1);
        rows(x, 2, 2, 0, 0, 0, 0);
        order(x, 0, 2, 0, 1, 2);
        x.undo();
        x.undo();
        Edge.due("rows(3)", x.rows(3), 5);
        x.undo();
        Edge.due("rows(3)", x.rows(3), 7);
    }

    private static void nothingIsChanged() {
        Edge.says("nothing is changed");
        FeastMarch x = Edge.busy();
        for (int i = -3; i <= 5; i++) {
            x.order(i);
            x.most(i);
            x.rows(i);
            x.fits(i);
            x.planned(i);
            x.odds(i, 0);
            x.odds(i, 1);
            x.far(i, 0);
            x.street(i, 3);
            x.leader(i, 2);
            x.now(i);
            x.count(i);
        }
        x.trace();
        Edge.same("what only asks changes nothing", x, Edge.busy());
    }

    private static void ordersOfAllLeft() {
        Edge.says("ROWS are orders of all LEADERS who did not lead yet");
        int[] orders = {1, 1, 2, 6, 24, 120, 720};
        for (int n = 0; n <= 6; n++) {
            FeastMarch x = Edge.told("c1;" + "l0 1;".repeat(n));
            for (int led = 0; led <= n; led++) {
                Edge.due("fits(-1) of " + n + " less " + led, x.fits(-1), orders[n - led]);
                Edge.due("order(-2)", x.order(-2), n - led);
                for (int i = 0; i <= 5; i++) {
                    // The latest of them led first, so the first ones are left.
                    Edge.due("order(" + i + ")", x.order(i), i < n - led ? i : Edge.NONE);
                    Edge.due("most(" + i + ")", x.most(i), i < n - led ? i : Edge.NONE);
                    Edge.due("fits(" + i + ")", x.fits(i),
                            i >= n - led ? Edge.NONE : n - led == 1 ? 0 : Edge.NOT_ONE);
                }
                x.leads(n - led - 1);
            }
        }
        FeastMarch gaps = Edge.told("c1;" + "l0 1;".repeat(6));
        gaps.leads(0);
        gaps.leads(3);
        order(gaps, 1, 4, 0, 1, 2, 4, 5, Edge.NONE, Edge.NONE);
        most(gaps, 0, 1, 2, 4, 5, Edge.NONE, Edge.NONE);
    }

    private static void theLastOfAllRows() {
        Edge.says("ROWS are orders of all LEADERS: of six 720, to the last of them");
        // By 5 4 3 2 1 0 alone each gets home.
        FeastMarch happy = line("l6 1;l5 1;l4 1;l3 1;l2 1;l1 1;");
        Edge.due("rows(2)", happy.rows(2), 6);
        Edge.due("rows(1): 6 by the last alone", happy.rows(1) >> 6, 1);
        most(happy, 6, 5, 4, 3, 2, 1, 0);
        for (int k = 0; k <= 5; k++) {
            happy.saw(k, k + 1);
        }
        fits(happy, 1, 5, 4, 3, 2, 1, 0);
        // 5 to 4, 4 to 1, 3 to 2, 2 to 4, 1 to the door, where 0 stands: no other row ends there with one fine.
        FeastMarch best = Edge.told("c5;s4 0 7;s2 1 2;s1 4 2;l3 3;l0 3;l0 2;l2 2;l1 3;l4 2;");
        order(best, 1, 1, 22, 5, 4, 3, 2, 1, 0);
        // Here the first one is the only such.
        FeastMarch first = line("l1 1;l2 1;l3 1;l4 1;l5 1;l6 1;");
        Edge.due("rows(2)", first.rows(2), 6);
        most(first, 6, 0, 1, 2, 3, 4, 5);
        for (int k = 0; k <= 5; k++) {
            first.saw(k, k + 1);
        }
        fits(first, 1, 0, 1, 2, 3, 4, 5);
    }

    private static void nobodyLeft() {
        Edge.says("nobody: one row, of none");
        FeastMarch x = Edge.told("c3;s0 1 2;s1 2 3;l1 1;");
        x.leads(0);
        order(x, 0, 0, 0, Edge.NONE, Edge.NONE, Edge.NONE, Edge.NONE, Edge.NONE, Edge.NONE);
        most(x, 1, Edge.NONE, Edge.NONE, Edge.NONE, Edge.NONE, Edge.NONE, Edge.NONE);
        rows(x, 2, 2, 0, 0, 0, 0);
        fits(x, 1, Edge.NONE, Edge.NONE, Edge.NONE, Edge.NONE, Edge.NONE, Edge.NONE);
        x.saw(0, 1);
        fits(x, 0, Edge.NONE, Edge.NONE, Edge.NONE, Edge.NONE, Edge.NONE, Edge.NONE);
        x.undo();
        fits(x, 1, 0, Edge.NONE);
        FeastMarch door = Edge.told("c3;s0 1 2;");
        order(door, 1, 0, 0, Edge.NONE);
        most(door, 0, Edge.NONE);
        rows(door, 1, 1, 0, 0, 0, 0);
        fits(door, 1, Edge.NONE);
        door.shuts(0, 1);
        rows(door, 1, 1, 0, 0, 0, 0);
    }

    private static void noCorners() {
        Edge.says("no CORNERS: it does not end at THE DOOR; where it ends: NONE");
        FeastMarch x = new FeastMarch();
        order(x, 0, 0, 0, Edge.NONE, Edge.NONE, Edge.NONE, Edge.NONE, Edge.NONE, Edge.NONE);
        most(x, 0, Edge.NONE, Edge.NONE, Edge.NONE, Edge.NONE, Edge.NONE, Edge.NONE);
        rows(x, 0, 0, 0, 0, 0, 0);
        fits(x, 1, Edge.NONE, Edge.NONE, Edge.NONE, Edge.NONE, Edge.NONE, Edge.NONE);
        planned(x, Edge.NONE, 0, 0, 0);
        for (int faints = 0; faints <= 10; faints++) {
            odds(x, faints, 0, 1);
        }
        FeastMarch one = Edge.told("c1;");
        order(one, 1, 0, 0, Edge.NONE);
        rows(one, 0, 1, 0, 0, 0, 0);
        planned(one, 0, 0, 0, 0);
        for (int faints = 0; faints <= 10; faints++) {
            odds(one, faints, 1, 1);
        }
        Edge.due("city() of an empty text", one.city(), 0);
        order(one, 0, 0, 0, Edge.NONE);
        rows(one, 0, 0, 0, 0, 0, 0);
        planned(one, Edge.NONE, 0, 0, 0);
        odds(one, 5, 0, 1);
    }

    /** Where it STANDS all who are left stand too, so who leads when then is told by no answer. */
    private static void turnedAbout() {
        Edge.says("as often as the march STANDS, those of the ROW that are left are turned about; as told, not as turned about");
        // 0 leads there and back and stands, and so does whoever is left.
        FeastMarch x = Edge.told("c4;s0 1 1;l3 3;l3 3;l3 3;l3 3;");
        order(x, 1, 4, 2, 0, 1, 2, 3, Edge.NONE);
        most(x, 1, 0, 1, 2, 3, Edge.NONE);
        rows(x, 0, 1, 0, 2, 2, 15);
        fits(x, 24, Edge.NOT_ONE, Edge.NOT_ONE, Edge.NOT_ONE, Edge.NOT_ONE, Edge.NONE);
        x.saw(0, 0);
        fits(x, 24, Edge.NOT_ONE, Edge.NOT_ONE, Edge.NOT_ONE, Edge.NOT_ONE, Edge.NONE);
        // 0 first: all are fined; 0 second: three; else the two who are left as it is back.
        FeastMarch last = Edge.told("c3;s0 1 1;l2 5;l1 1;l2 1;l2 1;");
        order(last, 1, 2, 2, 1, 2, 0, 3, Edge.NONE);
        last.saw(0, 1);
        last.saw(3, 0);
        fits(last, 18, Edge.NOT_ONE, Edge.NOT_ONE, Edge.NOT_ONE, Edge.NOT_ONE, Edge.NONE);
    }

    private static void theDoorFirst() {
        Edge.says("ORDER: of all ROWS that by which it ends at THE DOOR, if any does");
        // 0 1 ends at 1 without a fine; 1 0 goes to 2 and back, and then stands.
        FeastMarch later = Edge.told("c3;s2 0 1;s1 2 2;l2 2;l1 1;");
        order(later, 1, 1, 2, 1, 0, Edge.NONE);
        // 0 1 goes to 1 and back and stands, 1 0 ends at 2 without a fine.
        FeastMarch first = Edge.told("c3;s2 1 2;s1 0 1;l2 1;l1 2;");
        order(first, 1, 1, 2, 0, 1, Edge.NONE);
        // 0 1 ends at 2 in 3 hours, 1 0 at the door in 4.
        FeastMarch slower = Edge.told("c3;s1 2 1;s0 1 2;l0 1;l2 1;");
        order(slower, 1, 0, 4, 1, 0, Edge.NONE);
    }

    private static void thenFewestFines() {
        Edge.says("ORDER: with fewest FINES more");
        // 0 1 goes to 1 and back in 2 hours and stands; 1 0 by 1 to 2 and back in 4.
        FeastMarch later = Edge.told("c3;s1 2 1;s1 0 1;l0 2;l2 2;");
        order(later, 1, 0, 4, 1, 0, Edge.NONE);
        FeastMarch first = Edge.told("c3;s1 2 1;s1 0 1;l2 2;l0 2;");
        order(first, 1, 0, 4, 0, 1, Edge.NONE);
        // Fines ahead of now do not count.
        FeastMarch more = Edge.told("c1;l0 1;l0 1;l0 1;");
        order(more, 1, 3, 0, 0, 1, 2);
        more.leads(0);
        order(more, 1, 2, 0, 1, 2, Edge.NONE);
        more.leads(2);
        order(more, 1, 1, 0, 1, Edge.NONE);
        more.leads(1);
        order(more, 1, 0, 0, Edge.NONE);
    }

    private static void thenFewestHours() {
        Edge.says("ORDER: of as few in fewest HOURS");
        // To 2 and back by whom 2 is home of, or to 1 and back.
        FeastMarch later = Edge.told("c3;s2 0 2;s0 1 1;l2 1;l1 1;");
        order(later, 1, 0, 2, 1, 0, Edge.NONE);
        FeastMarch first = Edge.told("c3;s2 0 2;s0 1 1;l1 1;l2 1;");
        order(first, 1, 0, 2, 0, 1, Edge.NONE);
        later.leads(0);
        order(later, 1, 0, 2, 1, Edge.NONE);
        later.leads(1);
        order(later, 1, 0, 0, Edge.NONE);
    }

    private static void elseOfAll() {
        Edge.says("ORDER: else of all");
        // By 0 1 it ends at 1, by 1 0 at 2, an hour sooner.
        FeastMarch hours = Edge.told("c3;s2 1 1;s1 0 1;l1 1;l1 2;");
        order(hours, 0, 0, 2, 1, 0, Edge.NONE);
        // From 2, street 0 being shut: by 1 2 to the door and back, then it stands; by 2 1 to 1 and back.
        FeastMarch fines = Edge.told("c3;s0 2 1;s0 1 1;s2 0 3;l0 1;l2 2;l1 2;");
        fines.leads(0);
        fines.shuts(0, 1);
        order(fines, 0, 0, 8, 2, 1, Edge.NONE);
        // From 2 again: 1 2 ends at 1 without a fine, 2 1 at 2 with one, an hour sooner.
        FeastMarch first = Edge.told("c3;s0 2 1;s2 0 2;s1 0 3;l0 1;l0 2;l1 1;");
        first.leads(0);
        first.shuts(0, 1);
        order(first, 0, 0, 5, 1, 2, Edge.NONE);
        FeastMarch one = Edge.told("c2;s0 1 9;l1 1;");
        order(one, 0, 0, 9, 0, Edge.NONE);
    }

    private static void theFirstOfSeveral() {
        Edge.says("of several the first (by numbers)");
        // 0 first: two fines; else 1 or 2 lead it out, whoever is next back: 1 0 2 is the first of four.
        FeastMarch x = Edge.told("c2;s1 0 1;l0 2;l1 1;l0 1;");
        order(x, 1, 1, 2, 1, 0, 2, Edge.NONE);
        most(x, 1, 0, 1, 2, Edge.NONE);
        // Of the six 2 0 1 and 2 1 0 alone end at the door without a fine; 0 2 1 is the first by which both are walked.
        FeastMarch both = Edge.told("c3;s1 0 1;s2 1 1;l1 1;l0 1;l2 2;");
        order(both, 1, 0, 4, 2, 0, 1, Edge.NONE);
        most(both, 2, 0, 2, 1, Edge.NONE);
        FeastMarch six = Edge.told("c1;" + "l0 1;".repeat(6));
        order(six, 1, 6, 0, 0, 1, 2, 3, 4, 5);
        most(six, 0, 0, 1, 2, 3, 4, 5);
    }

    private static void notSoMany() {
        Edge.says("NONE: not so many");
        for (int n = 0; n <= 6; n++) {
            FeastMarch x = Edge.told("c2;s0 1 1;" + "l1 1;".repeat(n));
            for (int i = 0; i <= 5; i++) {
                Edge.due("order(" + i + ") of " + n, x.order(i), i < n ? i : Edge.NONE);
                Edge.due("most(" + i + ") of " + n, x.most(i), i < n ? i : Edge.NONE);
                Edge.due("fits(" + i + ") of " + n, x.fits(i), i >= n ? Edge.NONE : n == 1 ? 0 : Edge.NOT_ONE);
            }
        }
    }

    private static void mostStreets() {
        Edge.says("MOST: of all ROWS that by which most STREETS are walked (be it one way)");
        // 0 1 goes by street 0 out and back; 1 0 by it, back by it, and by street 1.
        FeastMarch later = Edge.told("c2;s1 0 1;s1 0 1;l1 2;l1 1;");
        most(later, 2, 1, 0, Edge.NONE);
        FeastMarch first = Edge.told("c2;s1 0 1;s1 0 1;l0 1;l1 2;");
        most(first, 2, 0, 1, Edge.NONE);
        // 0 1: streets 1, 2 both ways; 1 0: three streets, each one way.
        FeastMarch ways = Edge.told("c4;s1 2 3;s2 3 1;s3 0 3;l1 2;l2 2;");
        most(ways, 3, 1, 0, Edge.NONE);
        FeastMarch all = Edge.told("c3;" + "s0 1 1;".repeat(12) + "l2 5;l2 5;l2 5;l2 5;l2 4;l2 1;");
        most(all, 12, 0, 1, 2, 3, 4, 5);
        rows(all, 0, 1, 0, 24, 24, 63);
    }

    private static void mostAheadOfNow() {
        Edge.says("MOST: (be it ahead of NOW)");
        FeastMarch x = line("l2 2;l3 1;");
        most(x, 3, 0, 1, Edge.NONE);
        x.leads(0);
        most(x, 3, 1, Edge.NONE);
        x.shuts(0, 1);
        most(x, 3, 1, Edge.NONE);
        x.shuts(2, 1);
        most(x, 2, 1, Edge.NONE);
        x.leads(1);
        most(x, 2, Edge.NONE);
        for (int n = 0; n < 4; n++) {
            x.undo();
        }
        most(x, 3, 0, 1, Edge.NONE);
    }

    private static FeastMarch line(String leaders) {
        return Edge.told(LINE + leaders);
    }

    private static void never() {
        Edge.says("NEVER: STREETS (bits) that are walked by no ROW, nor were");
        for (int feet = 1; feet <= 5; feet++) {
            FeastMarch x = line("l7 " + feet + ";");
            int walked = (1 << feet) - 1;
            Edge.due("rows(0)", x.rows(0), 127 & ~walked);
            x.leads(0);
            Edge.due("rows(0): nor were", x.rows(0), 127 & ~walked);
            x.undo();
            x.shuts(feet - 1, 1);
            Edge.due("rows(0): as they are shut now", x.rows(0), feet == 1 ? 127 : 127 & ~(walked >> 1));
        }
        FeastMarch twelve = Edge.told("c2;" + "s0 1 1;".repeat(12));
        Edge.due("rows(0): all", twelve.rows(0), 4095);
        FeastMarch none = Edge.told("c2;l1 5;");
        Edge.due("rows(0): no streets", none.rows(0), 0);
        // By 0 1 streets 0 and 1, by 1 0 street 0: what one row walks is not never.
        FeastMarch one = Edge.told("c3;s2 0 1;s1 2 2;l2 2;l1 1;");
        Edge.due("rows(0)", one.rows(0), 0);
    }

    private static void ends() {
        Edge.says("ENDS: CORNERS (bits) where it can end by some ROW");
        // 2 first: at 1; 1 0 2: at 3; else back at the door.
        FeastMarch x = Edge.told("c4;s0 3 1;s0 1 1;l3 1;l1 1;l3 2;");
        Edge.due("rows(1)", x.rows(1), 11);
        for (int home = 1; home <= 7; home++) {
            FeastMarch one = line("l" + home + " 5;");
            Edge.due("rows(1)", one.rows(1), 1 << Math.min(5, home));
            one.shuts(0, 1);
            Edge.due("rows(1): it can't leave", one.rows(1), 1);
        }
        Edge.due("rows(1): 7, the last", line("l7 5;l7 2;").rows(1), 128);
    }

    private static void happy() {
        Edge.says("HOMES: at whose HOME the march is as they end leading (one with whom it STANDS there, too); HAPPY: the most");
        // 0 1: to 1, home of 1 whom it leads back from; 1 0: both are home.
        FeastMarch later = Edge.told("c2;s1 0 1;l0 1;l1 1;");
        Edge.due("rows(2)", later.rows(2), 2);
        FeastMarch first = Edge.told("c2;s1 0 1;l1 1;l0 1;");
        Edge.due("rows(2)", first.rows(2), 2);
        FeastMarch passed = Edge.told("c2;s1 0 1;l0 1;");
        Edge.due("rows(2): nobody is home as he ends", passed.rows(2), 0);
        for (int n = 0; n <= 6; n++) {
            Edge.due("rows(2): where all stand", Edge.told("c1;" + "l0 1;".repeat(n)).rows(2), n);
            Edge.due("rows(2): not theirs", Edge.told("c2;" + "l1 1;".repeat(n)).rows(2), 0);
        }
        FeastMarch led = Edge.told("c1;l0 1;l0 1;");
        led.leads(0);
        Edge.due("rows(2): of those who are left", led.rows(2), 1);
    }

    private static void bread() {
        Edge.says("BREAD: the fewest HOURS of any ROW, the most");
        FeastMarch later = Edge.told("c2;s1 0 1;s1 0 1;l0 1;l1 2;");
        rows(later, 0, 3, 2, 2, 3, 1);
        FeastMarch first = Edge.told("c2;s1 0 1;s1 0 1;l1 2;l1 1;");
        rows(first, 0, 3, 2, 2, 3, 2);
        first.leads(0);
        // Back by the street it came by, its other way.
        rows(first, 2, 1, 0, 1, 1, 2);
        FeastMarch one = Edge.told("c2;s0 1 9;l1 1;l0 1;");
        Edge.due("rows(3)", one.rows(3), 18);
        Edge.due("rows(4)", one.rows(4), 18);
        FeastMarch none = Edge.told("c1;l0 1;");
        Edge.due("rows(3)", none.rows(3), 0);
        Edge.due("rows(4)", none.rows(4), 0);
        FeastMarch longest = Edge.told("c2;" + "s0 1 9;".repeat(6) + "l1 1;l0 1;l1 1;l0 1;l1 1;l0 1;");
        Edge.due("rows(3), the longest", longest.rows(3), 54);
        Edge.due("rows(4), the longest", longest.rows(4), 54);
    }

    private static void hides() {
        Edge.says("HIDES: LEADERS (bits) by whom, leading last (as they lead) in some ROW, it ends at THE DOOR");
        Edge.due("rows(5): by 1 0", Edge.told("c2;s1 0 1;s1 0 1;l0 1;l1 2;").rows(5), 1);
        Edge.due("rows(5): by 0 1", Edge.told("c2;s1 0 1;s1 0 1;l1 2;l1 1;").rows(5), 2);
        Edge.due("rows(5): by one of six, 0 2 1", Edge.told("c3;s1 2 2;s0 2 3;s0 2 1;l1 1;l2 1;l2 2;").rows(5), 2);
        Edge.due("rows(5): by none", Edge.told("c2;s0 1 1;l1 1;").rows(5), 0);
        for (int n = 0; n <= 6; n++) {
            FeastMarch x = Edge.told("c1;" + "l0 1;".repeat(n));
            Edge.due("rows(5): each of " + n, x.rows(5), (1 << n) - 1);
            if (n > 0) {
                x.leads(n - 1);
                Edge.due("rows(5): not who led", x.rows(5), (1 << n - 1) - 1);
            }
        }
    }

    private static void seenSixAtMost() {
        Edge.says("SEEN (6 at most); saw: FULL");
        FeastMarch x = Edge.told("c2;s0 1 1;l1 1;l0 1;");
        for (int n = 1; n <= 6; n++) {
            Edge.due("saw(0, 1)", x.saw(0, 1), n);
            Edge.due("count(3)", x.count(3), n);
        }
        Edge.due("saw(0, 0), the seventh", x.saw(0, 0), Edge.FULL);
        Edge.due("count(3)", x.count(3), 6);
        Edge.due("fits(-1): the seventh was not seen", x.fits(-1), 2);
        Edge.due("saw(6, 0): BAD is ahead of FULL", x.saw(6, 0), Edge.BAD);
        Edge.due("saw(0, 2): BAD is ahead of FULL", x.saw(0, 2), Edge.BAD);
        Edge.refused(EdgesOfRows::muchSeen, "saw(2, 2), the seventh", y -> y.saw(2, 2), Edge.FULL);
        Edge.refused(EdgesOfRows::muchSeen, "saw(-1, 2)", y -> y.saw(-1, 2), Edge.BAD);
        Edge.due("forget()", x.forget(), 6);
        Edge.due("forget() of nothing", x.forget(), 0);
        Edge.due("saw(0, 0)", x.saw(0, 0), 1);
        Edge.due("fits(-1): what was forgotten counts no more", x.fits(-1), 0);
        // Each of the six counts: the sixth alone is not so.
        FeastMarch sixth = Edge.told("c2;s0 1 1;l1 1;l0 1;");
        for (int n = 1; n <= 5; n++) {
            sixth.saw(n % 2, 1 - n % 2);
        }
        Edge.due("fits(-1)", sixth.fits(-1), 2);
        sixth.saw(1, 1);
        Edge.due("fits(-1)", sixth.fits(-1), 0);
    }

    private static FeastMarch muchSeen() {
        FeastMarch x = Edge.busy();
        for (int n = 2; n <= 6; n++) {
            x.saw(0, 3);
        }
        return x;
    }

    private static void seenAsTheyLead() {
        Edge.says("SEEN: as the k-th (0 .. 5) LEADER of the ROW ended, the march was at a CORNER");
        for (int k = 0; k <= 5; k++) {
            for (int c = 0; c <= 7; c++) {
                FeastMarch x = line("l7 1;l7 1;l7 1;l7 1;l7 1;l7 1;");
                Edge.due("saw(" + k + ", " + c + ")", x.saw(k, c), 1);
                Edge.due("fits(-1)", x.fits(-1), c == k + 1 ? 720 : 0);
                x.leads(5);
                Edge.due("fits(-1) from now on", x.fits(-1), k < 5 && c == k + 2 ? 120 : 0);
            }
        }
    }

    private static void seenBeyondThose() {
        Edge.says("SEEN (k beyond those who lead: not so)");
        for (int n = 0; n <= 5; n++) {
            for (int k = 0; k <= 5; k++) {
                FeastMarch x = Edge.told("c1;" + "l0 1;".repeat(n));
                Edge.due("saw(" + k + ", 0)", x.saw(k, 0), 1);
                int[] orders = {1, 1, 2, 6, 24, 120};
                Edge.due("fits(-1) of " + n, x.fits(-1), k < n ? orders[n] : 0);
                Edge.due("fits(0) of " + n, x.fits(0), k >= n ? Edge.NONE : n == 1 ? 0 : Edge.NOT_ONE);
            }
        }
    }

    private static void fitsSurely() {
        Edge.says("FITS: who surely leads as k-th then (-5: not one alone; NONE: no ROW, not so many)");
        // 2 leads there and back, 0 and 1 to 1.
        FeastMarch x = Edge.told("c2;s1 0 1;l1 1;l1 1;l0 2;");
        fits(x, 6, Edge.NOT_ONE, Edge.NOT_ONE, Edge.NOT_ONE, Edge.NONE, Edge.NONE, Edge.NONE);
        x.saw(0, 0);
        fits(x, 2, 2, Edge.NOT_ONE, Edge.NOT_ONE, Edge.NONE, Edge.NONE, Edge.NONE);
        x.saw(0, 0);
        fits(x, 2, 2, Edge.NOT_ONE, Edge.NOT_ONE, Edge.NONE, Edge.NONE, Edge.NONE);
        x.saw(0, 1);
        fits(x, 0, Edge.NONE, Edge.NONE, Edge.NONE, Edge.NONE, Edge.NONE, Edge.NONE);
        x.forget();
        x.saw(0, 1);
        fits(x, 4, Edge.NOT_ONE, Edge.NOT_ONE, Edge.NOT_ONE, Edge.NONE, Edge.NONE, Edge.NONE);
        // One row alone: 1, then 0.
        FeastMarch one = Edge.told("c3;s0 1 2;s0 2 3;l1 1;l2 1;");
        one.saw(0, 2);
        fits(one, 1, 1, 0, Edge.NONE, Edge.NONE, Edge.NONE, Edge.NONE);
        // As the first, 3 alone gets to 2.
        FeastMarch six = line("l1 1;l1 1;l1 1;l2 2;l1 1;l1 1;");
        six.saw(0, 2);
        fits(six, 120, 3, Edge.NOT_ONE, Edge.NOT_ONE, Edge.NOT_ONE, Edge.NOT_ONE, Edge.NOT_ONE);
    }

    private static void planSixAtMost() {
        Edge.says("PLAN (6 at most); plans: FULL");
        FeastMarch x = Edge.told("c1;l0 1;l0 1;");
        for (int n = 1; n <= 6; n++) {
            Edge.due("plans(0)", x.plans(0), n);
            Edge.due("count(4)", x.count(4), n);
        }
        Edge.due("plans(1), the seventh", x.plans(1), Edge.FULL);
        Edge.due("plans(2): BAD is ahead of FULL", x.plans(2), Edge.BAD);
        Edge.due("plans(-1): BAD is ahead of FULL", x.plans(-1), Edge.BAD);
        Edge.due("planned(3): the seventh is not in it", x.planned(3), 1);
        Edge.refused(EdgesOfRows::muchPlanned, "plans(2), the seventh", y -> y.plans(2), Edge.FULL);
        Edge.refused(EdgesOfRows::muchPlanned, "plans(3)", y -> y.plans(3), Edge.BAD);
        Edge.due("drops()", x.drops(), 6);
        Edge.due("drops() of none", x.drops(), 0);
        Edge.due("planned(3)", x.planned(3), 0);
        Edge.due("plans(1)", x.plans(1), 1);
        Edge.due("planned(3)", x.planned(3), 1);
        FeastMarch sixth = line("l7 1;l7 1;");
        for (int n = 1; n <= 5; n++) {
            sixth.plans(0);
        }
        planned(sixth, 1, 1, 0, 1);
        sixth.plans(1);
        planned(sixth, 2, 2, 0, 2);
        FeastMarch six = line("l7 1;l7 1;l7 1;l7 1;l7 1;l7 1;");
        for (int l = 5; l >= 0; l--) {
            six.plans(l);
            planned(six, 6 - l, 6 - l, 0, 6 - l);
        }
    }

    private static FeastMarch muchPlanned() {
        FeastMarch x = Edge.busy();
        for (int n = 3; n <= 6; n++) {
            x.plans(1);
        }
        return x;
    }

    private static void plannedEachOnce() {
        Edge.says("PLANNED: those of PLAN who did not lead yet, each once (who is told again is passed over)");
        FeastMarch x = line("l3 3;l1 2;l7 1;");
        planned(x, 0, 0, 0, 0);
        x.plans(0);
        x.plans(1);
        x.plans(0);
        x.plans(2);
        x.plans(1);
        // 0 to 3; 1 back to 2 and to 1; 2 on to 2? That way is taken, so back to the door.
        planned(x, 0, 6, 0, 3);
        x.leads(1);
        planned(x, 4, 3, 0, 2);
        x.leads(0);
        planned(x, 4, 1, 0, 1);
        x.leads(2);
        planned(x, 4, 0, 0, 0);
        Edge.due("count(4): they stay in it", x.count(4), 5);
        x.undo();
        x.undo();
        planned(x, 4, 3, 0, 2);
        // In the order of the plan, not of numbers.
        FeastMarch order = Edge.told("c3;s2 0 2;s0 1 1;l2 1;l1 1;");
        order.plans(1);
        order.plans(0);
        planned(order, 0, 2, 0, 2);
        order.drops();
        order.plans(0);
        order.plans(1);
        planned(order, 0, 4, 0, 2);
        Edge.says("PLANNED: FINES more; as STREETS are SHUT now");
        FeastMarch fines = Edge.told("c1;l0 1;l0 1;l0 1;");
        fines.plans(2);
        fines.plans(0);
        planned(fines, 0, 0, 2, 2);
        fines.leads(1);
        planned(fines, 0, 0, 2, 2);
        fines.leads(0);
        planned(fines, 0, 0, 1, 1);
        FeastMarch shut = line("l7 5;");
        shut.plans(0);
        shut.shuts(2, 1);
        // To 2 and back, and then it stands.
        planned(shut, 0, 4, 1, 1);
        shut.shuts(0, 1);
        planned(shut, 0, 0, 1, 1);
    }

    private static void oddsOfNobody() {
        Edge.says("ODDS: that it ends at THE DOOR; of a plan of nobody");
        FeastMarch x = Edge.told("c2;s0 1 1;l1 1;");
        for (int faints = 0; faints <= 10; faints++) {
            odds(x, faints, 1, 1);
        }
        x.plans(0);
        odds(x, 4, 2, 5);
        x.leads(0);
        for (int faints = 0; faints <= 10; faints++) {
            odds(x, faints, 0, 1);
        }
        x.undo();
        odds(x, 4, 2, 5);
        x.shuts(0, 1);
        odds(x, 4, 1, 1);
        odds(x, 10, 1, 1);
    }

    private static int commonDivisor(int a, int b) {
        return b == 0 ? a : commonDivisor(b, a % b);
    }

    private static void oddsByTenths() {
        Edge.says("ODDS by x (0 .. 10): each of those faints by x in 10, each for himself");
        // Whoever leads, leads away and on: it ends at the door only if each of them faints.
        for (int n = 0; n <= 6; n++) {
            FeastMarch x = line("l7 1;l7 1;l7 1;l7 1;l7 1;l7 1;");
            int lower = 1;
            for (int l = 0; l < n; l++) {
                x.plans(l);
                lower *= 10;
            }
            for (int faints = 0; faints <= 10; faints++) {
                int upper = 1;
                for (int l = 0; l < n; l++) {
                    upper *= faints;
                }
                int common = commonDivisor(upper, lower);
                odds(x, faints, upper / common, lower / common);
            }
        }
        FeastMarch again = line("l7 1;");
        for (int n = 1; n <= 6; n++) {
            again.plans(0);
            odds(again, 3, 3, 10);
        }
    }

    private static void oddsInLeastTerms() {
        Edge.says("ODDS: upper, lower number, in least terms");
        // Each who leads leads to the other corner: it ends at the door by an even number of them.
        FeastMarch six = Edge.told("c2;s0 1 1;s0 1 1;s0 1 1;l1 1;l1 1;l1 1;l1 1;l1 1;l1 1;");
        for (int l = 0; l < 5; l++) {
            six.plans(l);
        }
        odds(six, 0, 0, 1);
        odds(six, 1, 2101, 6250);
        odds(six, 5, 1, 2);
        odds(six, 10, 1, 1);
        six.plans(5);
        odds(six, 0, 1, 1);
        odds(six, 1, 19721, 31250);
        odds(six, 3, 15689, 31250);
        odds(six, 5, 1, 2);
        odds(six, 10, 1, 1);
        FeastMarch far = line("l7 1;l7 1;l7 1;l7 1;l7 1;l7 1;");
        for (int l = 0; l < 6; l++) {
            far.plans(l);
        }
        odds(far, 0, 0, 1);
        odds(far, 1, 1, 1000000);
        odds(far, 3, 729, 1000000);
        odds(far, 2, 1, 15625);
        odds(far, 5, 1, 64);
        odds(far, 9, 531441, 1000000);
        odds(far, 10, 1, 1);
    }

    private static void oddsOfAnOrder() {
        Edge.says("ODDS: those of PLAN, one behind another, not turned about");
        FeastMarch x = Edge.told("c3;s0 1 1;s1 2 2;l0 2;l1 1;");
        x.plans(1);
        x.plans(0);
        // 1 to 1; 0 back to the door, his home. 0 alone: there and back.
        planned(x, 0, 2, 0, 2);
        // At 1 only if 1 leads and 0 faints: 0.9 of 0.1.
        odds(x, 1, 91, 100);
        x.drops();
        x.plans(0);
        x.plans(1);
        // 0 to 1 and back; 1, that way being taken, stands: always at the door but for 1 alone.
        planned(x, 0, 2, 1, 2);
        odds(x, 1, 91, 100);
        odds(x, 4, 19, 25);
        FeastMarch behind = Edge.told("c3;s0 1 1;s1 2 2;l1 1;l2 2;");
        behind.plans(0);
        behind.plans(1);
        odds(behind, 3, 9, 100);
        behind.leads(1);
        planned(behind, 1, 2, 0, 1);
        odds(behind, 3, 0, 1);
    }
}
