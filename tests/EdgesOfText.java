/** The bounds of THE TEXT and of what it tells, a sentence of the document's Terms at a time. */
public final class EdgesOfText {
    private static final String TWELVE_STREETS = "c2;" + "s0 1 9;".repeat(12);
    private static final String SIX_LEADERS = "c1;" + "l0 5;".repeat(6);

    public static void main(String[] args) {
        corners();
        theDoor();
        streets();
        unlikeCorners();
        hoursLong();
        leaders();
        homes();
        feet();
        bytesOfTheText();
        whatAByteIs();
        fullText();
        blanks();
        noBlanksNeeded();
        endedByStop();
        cornersFirst();
        cornersAgain();
        lettersOfNoItem();
        byteThatBeginsNone();
        numbersTooLong();
        zeroAhead();
        endsTooEarly();
        theFirstFault();
        emptyText();
        theTextStays();
        everyByteSomewhere();
        Edge.end();
    }

    private static String blanks(int n) {
        return " ".repeat(n);
    }

    private static void corners() {
        Edge.says("CORNERS 0 .. (8 of them at most); c N (1 to 8 CORNERS)");
        for (int n = 1; n <= 8; n++) {
            FeastMarch x = Edge.told("c" + n + ";");
            Edge.due("count(0) of " + n, x.count(0), n);
            Edge.due("far(n-1, n-1)", x.far(n - 1, n - 1), 0);
            Edge.due("far(n, 0)", x.far(n, 0), Edge.BAD);
        }
        Edge.fault("c0;", 1);
        Edge.fault("c9;", 1);
        Edge.fault("c 10;", 2);
        Edge.fault("c8;s0 8 1;", 6);
        Edge.told("c8;s0 7 1;s7 0 1;l7 1;l0 1;");
    }

    private static void theDoor() {
        Edge.says("0 has THE DOOR");
        Edge.due("now(0)", Edge.told("c1;").now(0), 0);
        Edge.due("now(0)", Edge.told("c8;s7 6 1;").now(0), 0);
        Edge.due("order(-1)", Edge.told("c1;").order(-1), 1);
    }

    private static void streets() {
        Edge.says("STREETS 0 .. (12 of them at most); a thirteenth street");
        FeastMarch none = Edge.told("c2;");
        Edge.due("count(1) of none", none.count(1), 0);
        Edge.due("street(0, 0) of none", none.street(0, 0), Edge.BAD);
        FeastMarch x = Edge.told(TWELVE_STREETS);
        Edge.due("count(1)", x.count(1), 12);
        Edge.due("street(11, 2)", x.street(11, 2), 9);
        Edge.due("street(12, 2)", x.street(12, 2), Edge.BAD);
        FeastMarch eleven = Edge.told("c2;" + "s1 0 8;".repeat(11));
        Edge.due("count(1)", eleven.count(1), 11);
        Edge.due("street(10, 2)", eleven.street(10, 2), 8);
        Edge.due("street(11, 2)", eleven.street(11, 2), Edge.BAD);
        Edge.fault(TWELVE_STREETS + "s0 1 9;", TWELVE_STREETS.length());
        Edge.fault(TWELVE_STREETS + "  s", TWELVE_STREETS.length() + 2);
        Edge.fault(TWELVE_STREETS + "l0 1;s9", TWELVE_STREETS.length() + 5);
        Edge.told(TWELVE_STREETS + "l0 1;");
    }

    private static void unlikeCorners() {
        Edge.says("between two unlike CORNERS; B that is A");
        Edge.fault("c1;s0 0 1;", 6);
        Edge.fault("c8;s0 0 1;", 6);
        Edge.fault("c8;s7 7 1;", 6);
        Edge.fault("c8;s3   3 1;", 8);
        Edge.fault("c8;s0 1 1;s1 1 1;", 13);
        FeastMarch x = Edge.told("c2;s0 1 1;s1 0 2;");
        Edge.due("street(0, 0)", x.street(0, 0), 0);
        Edge.due("street(0, 1)", x.street(0, 1), 1);
        Edge.due("street(1, 0)", x.street(1, 0), 1);
        Edge.due("street(1, 1)", x.street(1, 1), 0);
        Edge.fault("c1;s0 1 1;", 6);
        Edge.fault("c1;s1 0 1;", 4);
        Edge.fault("c2;s2 0 1;", 4);
        Edge.fault("c2;s0 2 1;", 6);
        Edge.fault("c7;s7 0 1;", 4);
        Edge.fault("c7;s0 7 1;", 6);
        Edge.told("c7;s6 0 1;s0 6 1;");
    }

    private static void hoursLong() {
        Edge.says("LONG (1 .. 9 HOURS)");
        for (int hours = 1; hours <= 9; hours++) {
            FeastMarch x = Edge.told("c2;s0 1 " + hours + ";l1 1;");
            Edge.due("street(0, 2)", x.street(0, 2), hours);
            Edge.due("far(0, 1)", x.far(0, 1), hours);
            x.leads(0);
            Edge.due("now(1)", x.now(1), hours);
        }
        Edge.fault("c2;s0 1 0;", 8);
        Edge.fault("c2;s0 1 10;", 8);
    }

    private static void leaders() {
        Edge.says("LEADERS 0 .. (6 of them at most); a seventh leader");
        FeastMarch none = Edge.told("c1;");
        Edge.due("count(2) of none", none.count(2), 0);
        Edge.due("leader(0, 0) of none", none.leader(0, 0), Edge.BAD);
        FeastMarch x = Edge.told(SIX_LEADERS);
        Edge.due("count(2)", x.count(2), 6);
        Edge.due("leader(5, 1)", x.leader(5, 1), 5);
        Edge.due("leader(6, 1)", x.leader(6, 1), Edge.BAD);
        FeastMarch five = Edge.told("c1;" + "l0 4;".repeat(5));
        Edge.due("count(2)", five.count(2), 5);
        Edge.due("leader(4, 1)", five.leader(4, 1), 4);
        Edge.due("leader(5, 1)", five.leader(5, 1), Edge.BAD);
        Edge.fault(SIX_LEADERS + "l0 5;", SIX_LEADERS.length());
        Edge.fault(SIX_LEADERS + " l", SIX_LEADERS.length() + 1);
        Edge.fault(SIX_LEADERS + ";", SIX_LEADERS.length());
        Edge.told("c2;" + "l0 5;".repeat(6) + "s0 1 1;");
    }

    private static void homes() {
        Edge.says("HOME (a CORNER)");
        for (int n = 1; n <= 8; n++) {
            FeastMarch x = Edge.told("c" + n + ";l0 1;l" + (n - 1) + " 2;");
            Edge.due("leader(0, 0)", x.leader(0, 0), 0);
            Edge.due("leader(1, 0)", x.leader(1, 0), n - 1);
            Edge.fault("c" + n + ";l" + n + " 2;", 4);
        }
        Edge.fault("c8;l9 1;", 4);
        Edge.fault("c8;l10 1;", 4);
    }

    private static void feet() {
        Edge.says("FEET (1 .. 5 STREETS)");
        for (int feet = 1; feet <= 5; feet++) {
            Edge.due("leader(0, 1)", Edge.told("c1;l0 " + feet + ";").leader(0, 1), feet);
        }
        Edge.fault("c1;l0 0;", 6);
        Edge.fault("c1;l0 6;", 6);
        Edge.fault("c1;l0 10;", 6);
    }

    private static void bytesOfTheText() {
        Edge.says("a text (150 bytes at most)");
        FeastMarch x = new FeastMarch();
        for (int n = 1; n <= 150; n++) {
            Edge.due("type(32)", x.type(32), n);
            Edge.due("count(6)", x.count(6), n);
        }
        Edge.due("type(32) of a full text", x.type(32), Edge.FULL);
        Edge.due("type(0) of a full text", x.type(0), Edge.FULL);
        Edge.due("type(255) of a full text", x.type(255), Edge.FULL);
        Edge.due("type(256) of a full text", x.type(256), Edge.BAD);
        Edge.due("type(-1) of a full text", x.type(-1), Edge.BAD);
        Edge.due("count(6)", x.count(6), 150);
        Edge.due("clear()", x.clear(), 150);
        Edge.due("type(32) of an empty text", x.type(32), 1);
        String full = "c8;s0 7 9;" + blanks(140);
        Edge.refused(() -> Edge.busy(full), "type(59) of a full text", y -> y.type(59), Edge.FULL);
        Edge.refused(() -> Edge.busy(full), "type(256) of a full text", y -> y.type(256), Edge.BAD);
        Edge.refused(() -> Edge.busy(full), "type(-1) of a full text", y -> y.type(-1), Edge.BAD);
    }

    private static void whatAByteIs() {
        Edge.says("type: a byte (0 .. 255)");
        FeastMarch low = new FeastMarch();
        FeastMarch high = new FeastMarch();
        for (int i = 0; i < 128; i++) {
            Edge.due("type(" + i + ")", low.type(i), i + 1);
            Edge.due("type(" + (i + 128) + ")", high.type(i + 128), i + 1);
        }
        for (int c : Edge.beyond(0, 255)) {
            Edge.refused(Edge::busy, "type(" + c + ")", x -> x.type(c), Edge.BAD);
        }
    }

    private static void fullText() {
        Edge.says("a text (150 bytes at most), read to its last byte");
        String all = TWELVE_STREETS + "l1 5;".repeat(6);
        FeastMarch x = Edge.told(blanks(150 - all.length()) + all);
        Edge.due("count(1)", x.count(1), 12);
        Edge.due("count(2)", x.count(2), 6);
        Edge.due("count(6)", x.count(6), 0);
        Edge.told(all + blanks(150 - all.length()));
        Edge.told(blanks(149 - all.length()) + all);
        Edge.told(blanks(147) + "c8;");
        Edge.fault(blanks(148) + "c8", 150);
        Edge.fault(blanks(149) + "c", 150);
        Edge.fault(blanks(149) + ";", 149);
        Edge.fault("c8;" + blanks(146) + "s", 150);
        Edge.fault("c8;" + blanks(146) + "x", 149);
        Edge.fault("c8;" + blanks(146) + "\u00ff", 149);
        Edge.fault("c" + "9".repeat(149), 1);
        Edge.fault("c" + "0".repeat(149), 1);
        Edge.fault("c".repeat(150), 0);
        Edge.fault(";".repeat(150), 0);
        FeastMarch again = Edge.busy(blanks(149) + ";");
        Edge.due("city()", again.city(), -159);
        Edge.due("clear()", again.clear(), 150);
    }

    private static void blanks() {
        Edge.says("blanks (32) ahead of, between and behind TOKENS as may be");
        FeastMarch x = Edge.told("    c    8    ;    s    0    7    9    ;    l    7    5    ;    ");
        Edge.due("street(0, 1)", x.street(0, 1), 7);
        Edge.due("leader(0, 1)", x.leader(0, 1), 5);
        Edge.told(" c8;");
        Edge.told("c 8;");
        Edge.told("c8 ;");
        Edge.told("c8; ");
        Edge.fault("c 8 8;", 4);
        Edge.fault("c2;s0 1 1 1;", 10);
        Edge.fault("c2;l0 1 1;", 8);
        Edge.fault("c c8;", 2);
        for (int c : new int[] {0, 9, 10, 11, 12, 13, 31, 33, 127, 128, 160, 255}) {
            Edge.fault((char) c + "c8;", 0);
            Edge.fault("c" + (char) c + "8;", 1);
            Edge.fault("c8" + (char) c + ";", 2);
            Edge.fault("c8;" + (char) c, 3);
        }
    }

    private static void noBlanksNeeded() {
        Edge.says("none needed where TOKENS end without");
        FeastMarch x = Edge.told("c8;s0 7 9;l7 5;");
        Edge.due("count(0)", x.count(0), 8);
        Edge.due("street(0, 2)", x.street(0, 2), 9);
        Edge.due("leader(0, 0)", x.leader(0, 0), 7);
        Edge.fault("c8;s07 9;", 4);
        Edge.fault("c8;s1 29;", 6);
        Edge.fault("c8;s129;", 4);
        Edge.fault("c8;l75;", 4);
        Edge.fault("c8s0 7 9;", 2);
        Edge.fault("c8;sl0 7;", 3);
        Edge.fault("c8;s0 7s9;", 7);
    }

    private static void endedByStop() {
        Edge.says("ITEMS, each letters and what is told, ended by ;");
        Edge.fault("c8 s0 1 1;", 3);
        Edge.fault("c8;s0 1 1 l0 1;", 10);
        Edge.fault("c8;l0 1 l0 1;", 8);
        Edge.fault("c8;;", 3);
        Edge.fault("c8; ;", 4);
        Edge.fault("c;", 1);
        Edge.fault("c8;s;", 4);
        Edge.fault("c8;s0;", 5);
        Edge.fault("c8;s0 1;", 7);
        Edge.fault("c8;l;", 4);
        Edge.fault("c8;l0;", 5);
        Edge.fault("c8;1 l0;", 3);
        Edge.fault("c8;s l0 1;", 5);
        Edge.fault("c8;s0 1 l;", 8);
        Edge.fault("c8:", 2);
        Edge.fault("c8<", 2);
        FeastMarch x = new FeastMarch();
        Edge.write(x, "c8;s0 1 1;l1 1;l1 1;");
        Edge.due("city(): how many ITEMS", x.city(), 4);
    }

    private static void cornersFirst() {
        Edge.says("c N, the first of all; another ITEM ahead of c");
        Edge.fault("s0 1 1;", 0);
        Edge.fault("s0 1 1;c2;", 0);
        Edge.fault("l0 1;c1;", 0);
        Edge.fault("  l0 1;c1;", 2);
        Edge.fault("s", 0);
        Edge.fault("l", 0);
        Edge.told("c2;l0 1;s0 1 1;l1 1;s1 0 1;");
    }

    private static void cornersAgain() {
        Edge.says("c behind another ITEM");
        Edge.fault("c2;c2;", 3);
        Edge.fault("c2; c", 4);
        Edge.fault("c2;s0 1 1;c2;", 10);
        Edge.fault("c2;l0 1;c2;", 8);
        Edge.fault("c2;l0 1;s0 1 1;c2;", 15);
    }

    private static void lettersOfNoItem() {
        Edge.says("TOKENS are letters a .. z side by side; letters that begin no ITEM");
        for (char c = 'a'; c <= 'z'; c++) {
            if (c != 'c' && c != 's' && c != 'l') {
                Edge.fault(c + "1;", 0);
                Edge.fault("c2;" + c + "0 1 1;", 3);
            }
            if (c != 'c') {
                Edge.fault(c + "c2;", 0);
                Edge.fault("c" + c + "2;", 0);
            }
            Edge.fault("c2;s" + c + "0 1 1;", 3);
            Edge.fault("c2;" + c + "l0 1;", 3);
            Edge.fault("c2;s0 " + c + " 1;", 6);
        }
        Edge.fault("cc2;", 0);
        Edge.fault("c2;ss0 1 1;", 3);
        Edge.fault("c2;ll0 1;", 3);
        Edge.fault("c2;lll", 3);
        Edge.fault("C2;", 0);
        Edge.fault("c2;S0 1 1;", 3);
        Edge.fault("c2;L0 1;", 3);
        Edge.fault("c2;sS0 1 1;", 4);
    }

    private static void byteThatBeginsNone() {
        Edge.says("FAULT: of a byte that begins none");
        Edge.fault("`", 0);
        Edge.fault("{", 0);
        Edge.fault("c2;`", 3);
        Edge.fault("c2;{", 3);
        Edge.fault("c`2;", 1);
        Edge.fault("c{2;", 1);
        Edge.fault("c/;", 1);
        Edge.fault("c:;", 1);
        Edge.fault("c2/;", 2);
        Edge.fault("c2:;", 2);
        Edge.fault("c-1;", 1);
        Edge.fault("c+1;", 1);
        Edge.fault("c1.0;", 2);
        Edge.fault("c2,", 2);
        Edge.fault("c2;s0,1 1;", 5);
        Edge.fault("c2;s0 1 1;#", 10);
        Edge.fault("c2;\u00f3", 3);
    }

    /** No NUMBER that may be told has two digits, so 99 and 100 have their FAULT at one place. */
    private static void numbersTooLong() {
        Edge.says("FAULT: a NUMBER above 99, that TOKEN's; a NUMBER beyond what it may be");
        for (String number : new String[] {"9", "10", "98", "99", "100", "101", "999", "1000", "65537", "4294967297",
            "18446744073709551617"}) {
            Edge.fault("c" + number + ";", 1);
            Edge.fault("c " + number, 2);
            Edge.fault("c8;s" + number + " 1 1;", 4);
            Edge.fault("c8;s0 " + number + " 1;", 6);
            Edge.fault("c8;l" + number + " 1;", 4);
            Edge.fault("c8;l0 " + number + ";", 6);
            Edge.fault("c8;" + number + ";", 3);
            Edge.fault("c8;s0 1 " + (number.equals("9") ? "0" : number) + ";", 8);
        }
    }

    private static void zeroAhead() {
        Edge.says("FAULT: a NUMBER with a 0 ahead of others, that TOKEN's");
        Edge.fault("c01;", 1);
        Edge.fault("c08;", 1);
        Edge.fault("c00;", 1);
        Edge.fault("c001;", 1);
        Edge.fault("c2;s00 1 1;", 4);
        Edge.fault("c2;s0 01 1;", 6);
        Edge.fault("c2;s0 1 01;", 8);
        Edge.fault("c2;l00 1;", 4);
        Edge.fault("c2;l01 1;", 4);
        Edge.fault("c2;l0 01;", 6);
        Edge.told("c2;s0 1 1;s1 0 1;l0 1;");
    }

    private static void endsTooEarly() {
        Edge.says("FAULT: the text's length, if it ends too early");
        String all = "c2;s0 1 9;l1 5;";
        for (int n = 1; n <= all.length(); n++) {
            String some = all.substring(0, n);
            if (some.endsWith(";")) {
                Edge.told(some);
                Edge.told(some + "   ");
            } else {
                Edge.fault(some, n);
                Edge.fault(some + " ", n + 1);
                Edge.fault(some + "    ", n + 4);
                Edge.fault("  " + some, n + 2);
            }
        }
    }

    private static void theFirstFault() {
        Edge.says("FAULT: the place of the first byte of the first TOKEN that can't stand there");
        Edge.fault("c9;c9;", 1);
        Edge.fault("c2;s0 0 0;", 6);
        Edge.fault("c2;s2 2 0;", 4);
        Edge.fault("c2;s0 1 0;s0 0 1;", 8);
        Edge.fault("c2;l2 9;", 4);
        Edge.fault("c2;l0 9", 6);
        Edge.fault("c2;xyz!", 3);
        Edge.fault("c2;!xyz", 3);
        Edge.fault("c2;s0 1 1;s0 1", 14);
        Edge.fault("c2;s0 1 1;  9", 12);
        Edge.fault("c 9", 2);
        Edge.fault("c10", 1);
        Edge.fault("!", 0);
    }

    private static void emptyText() {
        Edge.says("An empty text: no CORNERS");
        FeastMarch x = Edge.busy("");
        Edge.due("city()", x.city(), 0);
        for (int what = 0; what <= 6; what++) {
            Edge.due("count(" + what + ")", x.count(what), 0);
        }
        Edge.due("now(0)", x.now(0), Edge.NONE);
        for (int what = 1; what <= 5; what++) {
            Edge.due("now(" + what + ")", x.now(what), 0);
        }
        Edge.due("back(0)", x.back(0), Edge.STATE);
        Edge.due("back(1)", x.back(1), Edge.STATE);
        Edge.due("undo()", x.undo(), Edge.STATE);
        Edge.due("trace()", x.trace(), 100001);
        Edge.due("order(-1)", x.order(-1), 0);
        Edge.due("rows(1)", x.rows(1), 0);
        FeastMarch cleared = Edge.busy("c1;");
        cleared.clear();
        Edge.due("city() behind clear()", cleared.city(), 0);
        Edge.due("count(0)", cleared.count(0), 0);
        FeastMarch twice = Edge.told("c3;");
        Edge.due("city() again: the text is empty now", twice.city(), 0);
        Edge.due("count(0)", twice.count(0), 0);
        Edge.due("city() of a new object", new FeastMarch().city(), 0);
    }

    private static void theTextStays() {
        Edge.says("-10 less FAULT: nothing changes (THE TEXT, too, stays)");
        FeastMarch x = Edge.busy("c3;s0 2");
        Edge.due("city()", x.city(), -17);
        Edge.due("city() again", x.city(), -17);
        Edge.due("count(0)", x.count(0), 4);
        Edge.due("type(32)", x.type(' '), 8);
        Edge.due("city()", x.city(), -18);
        Edge.due("type(57)", x.type('9'), 9);
        Edge.due("type(59)", x.type(';'), 10);
        Edge.due("city()", x.city(), 2);
        Edge.due("count(0)", x.count(0), 3);
        Edge.due("count(1)", x.count(1), 1);
        Edge.due("far(0, 2)", x.far(0, 2), 9);
        Edge.due("count(6)", x.count(6), 0);
        FeastMarch cleared = Edge.busy("c3;s0 2");
        Edge.due("city()", cleared.city(), -17);
        Edge.due("clear()", cleared.clear(), 7);
        Edge.write(cleared, "c5;");
        Edge.due("city()", cleared.city(), 1);
        Edge.due("count(0)", cleared.count(0), 5);
        Edge.same("clear() of an empty text changes nothing", clearedOnce(), Edge.busy(""));
    }

    private static FeastMarch clearedOnce() {
        FeastMarch x = Edge.busy("");
        Edge.due("clear() of an empty text", x.clear(), 0);
        return x;
    }

    private static boolean isLetter(int c) {
        return c >= 'a' && c <= 'z';
    }

    private static boolean isDigit(int c) {
        return c >= '0' && c <= '9';
    }

    private static void everyByteSomewhere() {
        Edge.says("read byte by byte");
        for (int c = 0; c <= 255; c++) {
            String it = "" + (char) c;
            everyByte(it + "c2;", c == ' ', 0);
            everyByte("c" + it + "2;", c == ' ', isLetter(c) ? 0 : 1);
            everyByte("c2" + it + ";", c == ' ', isDigit(c) ? 1 : c == ';' ? 3 : 2);
            everyByte("c2;" + it, c == ' ', c == 's' || c == 'l' ? 4 : 3);
            everyByte("c" + it + ";", c >= '1' && c <= '8', isLetter(c) ? 0 : c == ' ' ? 2 : 1);
            everyByte("c3;s" + it + " 2 1;", c == '0' || c == '1', isLetter(c) ? 3 : c == '2' ? 6 : c == ' ' ? 9 : 4);
            everyByte("c3;s1 " + it + " 2;", c == '0' || c == '2', c == ' ' ? 9 : 6);
            everyByte("c3;s1 2 " + it + ";", c >= '1' && c <= '9', c == ' ' ? 9 : 8);
            everyByte("c3;l" + it + " 1;", c >= '0' && c <= '2', isLetter(c) ? 3 : c == ' ' ? 7 : 4);
            everyByte("c3;l0 " + it + ";", c >= '1' && c <= '5', c == ' ' ? 7 : 6);
        }
    }

    private static void everyByte(String text, boolean stands, int place) {
        FeastMarch x = new FeastMarch();
        Edge.write(x, text);
        int items = text.indexOf(';') < text.length() - 1 && text.endsWith(";") ? 2 : 1;
        Edge.due("city() of '" + text + "'", x.city(), stands ? items : -10 - place);
        Edge.due("count(6)", x.count(6), stands ? 0 : text.length());
    }
}
