import java.math.BigInteger;
import java.util.ArrayDeque;
import java.util.ArrayList;
import java.util.Collections;
import java.util.HashSet;
import java.util.List;
import java.util.Set;
import java.util.TreeSet;

/**
 * Many runs of calls, each answer beside that of a model which says the document anew with lists and
 * sets: ROWS by recursion, FAR by going on and on, the text by taking its TOKENS off one by one.
 */
public final class AgainstModel {
    private static long seed = 20261119;
    private static int wrong = 0;
    private static long calls = 0;
    private static int used = 0;

    public static void main(String[] args) {
        for (int run = 0; run < 1500 && wrong < 10; run++) {
            oneRun(run);
        }
        System.out.println(calls + " calls, " + wrong + " answers are not the model's");
        if (wrong != 0) {
            System.exit(1);
        }
    }

    private static int below(int n) {
        seed = seed * 6364136223846793005L + 1442695040888963407L;
        return (int) ((seed >>> 33) % n);
    }

    private static void oneRun(int run) {
        FeastMarch x = new FeastMarch();
        Model m = new Model();
        StringBuilder log = new StringBuilder();
        used = 0;
        boolean odd = run % 5 == 4;
        while (used < 511 && wrong < 10) {
            if (used < 330 && below(60) == 0 || used == 0) {
                String text = text(odd && below(2) == 0);
                for (int i = 0; i < text.length(); i++) {
                    check(run, log, "type(" + (int) text.charAt(i) + ")", x.type(text.charAt(i)), m.type(text.charAt(i)));
                }
                int got = x.city();
                check(run, log, "city()", got, m.city());
                if (got < 0 && below(4) != 0) {
                    check(run, log, "clear()", x.clear(), m.clear());
                }
            } else {
                oneCall(run, log, x, m);
            }
        }
    }

    private static void check(int run, StringBuilder log, String call, long got, long want) {
        calls++;
        used++;
        log.append(call).append(' ');
        if (got != want) {
            wrong++;
            System.out.println("run " + run + ": " + call + " answered " + got + ", due is " + want + " behind " + log);
        }
    }

    private static String text(boolean spoilt) {
        StringBuilder s = new StringBuilder();
        int n = 1 + below(8);
        if (below(3) != 0) {
            n = Math.max(n, 4);
        }
        s.append("c").append(n).append(';');
        int streets = n < 2 ? 0 : below(3) == 0 ? below(13) : 4 + below(9);
        int leaders = below(3) == 0 ? 6 : below(7);
        int longest = 1 + below(9);
        while (streets + leaders > 0) {
            if (below(streets + leaders) < streets) {
                int a = below(n);
                int b = (a + 1 + below(n - 1)) % n;
                s.append("s").append(a).append(' ').append(b).append(' ').append(1 + below(longest)).append(';');
                streets--;
            } else {
                s.append("l").append(below(n)).append(' ').append(1 + below(5)).append(';');
                leaders--;
            }
        }
        if (below(4) == 0) {
            for (int i = below(12); i > 0; i--) {
                s.insert(below(s.length() + 1), ' ');
            }
        }
        if (spoilt) {
            String bytes = "csl;;  0123456789xA\n\u00ff";
            for (int i = 1 + below(2); i > 0; i--) {
                int at = below(s.length());
                switch (below(3)) {
                    case 0: s.deleteCharAt(at); break;
                    case 1: s.setCharAt(at, bytes.charAt(below(bytes.length()))); break;
                    default: s.insert(at, bytes.charAt(below(bytes.length()))); break;
                }
            }
            if (below(4) == 0) {
                s.setLength(below(s.length() + 1));
            }
        }
        return s.length() > 160 ? s.substring(0, 160) : s.toString();
    }

    /** Mostly a number that may be told, at times one that may not. */
    private static int number(int least, int most) {
        switch (below(40)) {
            case 0: return least - 1;
            case 1: return most + 1;
            case 2: return below(2) == 0 ? Integer.MIN_VALUE : Integer.MAX_VALUE;
            default: return least + below(most - least + 1);
        }
    }

    private static void oneCall(int run, StringBuilder log, FeastMarch x, Model m) {
        int a;
        int b;
        switch (below(25)) {
            case 0: a = number(0, 11); b = number(0, 4);
                check(run, log, "street(" + a + ", " + b + ")", x.street(a, b), m.street(a, b)); break;
            case 1: a = number(0, 5); b = number(0, 2);
                check(run, log, "leader(" + a + ", " + b + ")", x.leader(a, b), m.leader(a, b)); break;
            case 2: a = number(0, 7); b = number(0, 7);
                check(run, log, "far(" + a + ", " + b + ")", x.far(a, b), m.far(a, b)); break;
            case 3: case 4: a = number(0, 5);
                check(run, log, "leads(" + a + ")", x.leads(a), m.leads(a)); break;
            case 5: case 6: a = number(0, 11); b = number(0, 1);
                check(run, log, "shuts(" + a + ", " + b + ")", x.shuts(a, b), m.shuts(a, b)); break;
            case 7: case 8: check(run, log, "undo()", x.undo(), m.undo()); break;
            case 9: a = number(0, 5);
                check(run, log, "now(" + a + ")", x.now(a), m.now(a)); break;
            case 10: case 11: a = number(-3, 5);
                check(run, log, "order(" + a + ")", x.order(a), m.order(a)); break;
            case 12: a = number(-1, 5);
                check(run, log, "most(" + a + ")", x.most(a), m.most(a)); break;
            case 13: case 14: a = number(0, 5);
                check(run, log, "rows(" + a + ")", x.rows(a), m.rows(a)); break;
            case 15: a = number(0, 5); b = number(0, 7);
                check(run, log, "saw(" + a + ", " + b + ")", x.saw(a, b), m.saw(a, b)); break;
            case 16: check(run, log, "forget()", x.forget(), m.forget()); break;
            case 17: a = number(-1, 5);
                check(run, log, "fits(" + a + ")", x.fits(a), m.fits(a)); break;
            case 18: case 19: a = number(0, 5);
                check(run, log, "plans(" + a + ")", x.plans(a), m.plans(a)); break;
            case 20: if (below(4) == 0) {
                    check(run, log, "drops()", x.drops(), m.drops());
                } else {
                    a = number(0, 3);
                    check(run, log, "planned(" + a + ")", x.planned(a), m.planned(a));
                } break;
            case 21: a = number(0, 10); b = number(0, 1);
                check(run, log, "odds(" + a + ", " + b + ")", x.odds(a, b), m.odds(a, b)); break;
            case 22: a = number(0, 5); b = number(0, 11);
                check(run, log, "mark(" + a + ", " + b + ")", x.mark(a, b), m.mark(a, b));
                check(run, log, "trace()", x.trace(), m.trace); break;
            case 23: a = number(0, 1);
                if (below(2) == 0) {
                    check(run, log, "keep(" + a + ")", x.keep(a), m.keep(a));
                } else {
                    check(run, log, "back(" + a + ")", x.back(a), m.back(a));
                } break;
            default: a = number(0, 6);
                check(run, log, "count(" + a + ")", x.count(a), m.count(a)); break;
        }
    }

    private record Street(int a, int b, int hours) { }

    private record Leader(int home, int feet) { }

    /** A step along a street from a corner. */
    private record Step(int street, int from) { }

    private record Now(int at, int hour, int fines, Set<Integer> led, Set<Step> taken, Set<Integer> shut) {
        Set<Integer> walked() {
            Set<Integer> all = new TreeSet<>();
            taken.forEach(s -> all.add(s.street));
            return all;
        }
    }

    private record Image(Now now, List<Now> past) { }

    private record Led(Now now, boolean stood) { }

    /** A row as told, who led when, where each of them ended, and how it ends. */
    private record Walk(List<Integer> told, List<Integer> led, List<Integer> places, Now end) { }

    private static final class Model {
        StringBuilder text = new StringBuilder();
        int corners = 0;
        List<Street> streets = new ArrayList<>();
        List<Leader> leaders = new ArrayList<>();
        Now now = new Now(0, 0, 0, Set.of(), Set.of(), Set.of());
        ArrayDeque<Now> past = new ArrayDeque<>();
        Image[] images = new Image[2];
        List<int[]> seen = new ArrayList<>();
        List<Integer> plan = new ArrayList<>();
        long trace = 0;

        int type(int c) {
            if (c < 0 || c > 255) return -1;
            if (text.length() == 150) return -3;
            text.append((char) c);
            return text.length();
        }

        int clear() {
            int had = text.length();
            text = new StringBuilder();
            return had;
        }

        // The text: each token with its place, then item by item.
        private record Token(String is, int place) { }

        private List<Token> tokens() {
            List<Token> all = new ArrayList<>();
            String rest = text.toString();
            int place = 0;
            while (!rest.isEmpty()) {
                String is = "" + rest.charAt(0);
                if (is.matches("[a-z]")) is = rest.replaceFirst("(?s)^([a-z]+).*$", "$1");
                if (is.matches("[0-9]")) is = rest.replaceFirst("(?s)^([0-9]+).*$", "$1");
                if (!is.equals(" ")) all.add(new Token(is, place));
                place += is.length();
                rest = rest.substring(is.length());
            }
            return all;
        }

        int city() {
            int n = 0;
            int items = 0;
            List<Street> ss = new ArrayList<>();
            List<Leader> ls = new ArrayList<>();
            ArrayDeque<Token> left = new ArrayDeque<>(tokens());
            while (!left.isEmpty()) {
                Token head = left.poll();
                boolean stands = items == 0 ? head.is.equals("c")
                        : head.is.equals("s") && ss.size() < 12 || head.is.equals("l") && ls.size() < 6;
                if (!stands) return -10 - head.place;
                List<Integer> told = new ArrayList<>();
                int wanted = head.is.equals("c") ? 1 : head.is.equals("s") ? 3 : 2;
                for (int i = 0; i <= wanted; i++) {
                    Token next = left.poll();
                    if (next == null) return -10 - text.length();
                    if (i == wanted) {
                        if (!next.is.equals(";")) return -10 - next.place;
                    } else {
                        if (!next.is.matches("0|[1-9][0-9]?")) return -10 - next.place;
                        int value = Integer.parseInt(next.is);
                        boolean isCorner = head.is.equals("s") && i < 2 || head.is.equals("l") && i == 0;
                        int least = isCorner ? 0 : 1;
                        int most = isCorner ? n - 1 : head.is.equals("c") ? 8 : head.is.equals("s") ? 9 : 5;
                        boolean same = head.is.equals("s") && i == 1 && value == told.get(0);
                        if (value < least || value > most || same) return -10 - next.place;
                        told.add(value);
                    }
                }
                if (head.is.equals("c")) n = told.get(0);
                if (head.is.equals("s")) ss.add(new Street(told.get(0), told.get(1), told.get(2)));
                if (head.is.equals("l")) ls.add(new Leader(told.get(0), told.get(1)));
                items++;
            }
            long stays = trace;
            corners = n;
            streets = ss;
            leaders = ls;
            text = new StringBuilder();
            now = new Now(0, 0, 0, Set.of(), Set.of(), Set.of());
            past = new ArrayDeque<>();
            images = new Image[2];
            seen = new ArrayList<>();
            plan = new ArrayList<>();
            trace = stays;
            return items;
        }

        boolean noStreet(int s) { return s < 0 || s >= streets.size(); }

        boolean noLeader(int l) { return l < 0 || l >= leaders.size(); }

        boolean noCorner(int c) { return c < 0 || c >= corners; }

        int street(int s, int what) {
            if (noStreet(s) || what < 0 || what > 4) return -1;
            Street is = streets.get(s);
            int first = now.taken.contains(new Step(s, is.a)) ? 1 : 0;
            int second = now.taken.contains(new Step(s, is.b)) ? 2 : 0;
            return List.of(is.a, is.b, is.hours, first + second, now.shut.contains(s) ? 1 : 0).get(what);
        }

        int leader(int l, int what) {
            if (noLeader(l) || what < 0 || what > 2) return -1;
            return List.of(leaders.get(l).home, leaders.get(l).feet, now.led.contains(l) ? 1 : 0).get(what);
        }

        int far(int a, int b) {
            return noCorner(a) || noCorner(b) ? -1 : distance(a, b);
        }

        /** Bellman's way: as long as anything gets nearer. */
        int distance(int a, int b) {
            int[] d = new int[corners];
            java.util.Arrays.fill(d, 99);
            d[a] = 0;
            boolean nearer = true;
            while (nearer) {
                nearer = false;
                for (Street s : streets) {
                    if (d[s.a] + s.hours < d[s.b]) { d[s.b] = d[s.a] + s.hours; nearer = true; }
                    if (d[s.b] + s.hours < d[s.a]) { d[s.a] = d[s.b] + s.hours; nearer = true; }
                }
            }
            return d[b];
        }

        private static <T> Set<T> with(Set<T> set, T one) {
            Set<T> more = new HashSet<>(set);
            more.add(one);
            return more;
        }

        Led lead(Now from, int l) {
            Leader who = leaders.get(l);
            Now is = new Now(from.at, from.hour, from.fines, with(from.led, l), from.taken, from.shut);
            int feet = who.feet;
            while (feet > 0) {
                int at = is.at;
                List<int[]> wishes = new ArrayList<>();
                for (int s = 0; s < streets.size(); s++) {
                    Street street = streets.get(s);
                    if (street.a != at && street.b != at) continue;
                    if (is.shut.contains(s) || is.taken.contains(new Step(s, at))) continue;
                    int to = street.a + street.b - at;
                    wishes.add(new int[] {distance(to, who.home), street.hours, s, to});
                }
                if (wishes.isEmpty()) {
                    return new Led(new Now(at, is.hour, is.fines + 1, is.led, is.taken, is.shut), true);
                }
                int[] wish = Collections.min(wishes, (p, q) -> java.util.Arrays.compare(p, q));
                is = new Now(wish[3], is.hour + wish[1], is.fines, is.led, with(is.taken, new Step(wish[2], at)), is.shut);
                feet = is.at == who.home ? 0 : feet - 1;
            }
            return new Led(is, false);
        }

        void did(Now next) {
            past.addLast(now);
            if (past.size() > 10) past.removeFirst();
            now = next;
            walks = null;
        }

        int leads(int l) {
            if (noLeader(l)) return -1;
            if (now.led.contains(l)) return -2;
            did(lead(now, l).now);
            return now.at;
        }

        int shuts(int s, int is) {
            if (noStreet(s) || is != 0 && is != 1) return -1;
            if (now.shut.contains(s) == (is == 1)) return -2;
            Set<Integer> shut = new HashSet<>(now.shut);
            if (is == 1) shut.add(s); else shut.remove(s);
            did(new Now(now.at, now.hour, now.fines, now.led, now.taken, shut));
            return shut.size();
        }

        int undo() {
            if (past.isEmpty()) return -2;
            now = past.removeLast();
            return past.size();
        }

        static int bits(Iterable<Integer> set) {
            int all = 0;
            for (int i : set) all |= 1 << i;
            return all;
        }

        int now(int what) {
            if (what < 0 || what > 5) return -1;
            return List.of(corners == 0 ? -9 : now.at, now.hour, now.fines, bits(now.led), bits(now.walked()), bits(now.shut)).get(what);
        }

        private List<Walk> walks = null;
        private Now walksOf = null;

        List<Walk> walks() {
            if (walks == null || walksOf != now) {
                walks = new ArrayList<>();
                walksOf = now;
                List<Integer> left = new ArrayList<>();
                for (int l = 0; l < leaders.size(); l++) if (!now.led.contains(l)) left.add(l);
                orders(new ArrayList<>(), left);
            }
            return walks;
        }

        private void orders(List<Integer> told, List<Integer> left) {
            if (left.isEmpty()) {
                walks.add(walk(new ArrayList<>(told)));
            }
            for (int l : left) {
                List<Integer> rest = new ArrayList<>(left);
                rest.remove((Integer) l);
                told.add(l);
                orders(told, rest);
                told.remove(told.size() - 1);
            }
        }

        private Walk walk(List<Integer> told) {
            List<Integer> left = new ArrayList<>(told);
            List<Integer> led = new ArrayList<>();
            List<Integer> places = new ArrayList<>();
            Now is = now;
            while (!left.isEmpty()) {
                int l = left.remove(0);
                Led next = lead(is, l);
                is = next.now;
                led.add(l);
                places.add(is.at);
                if (next.stood) Collections.reverse(left);
            }
            return new Walk(told, led, places, is);
        }

        boolean atDoor(Now is) { return corners > 0 && is.at == 0; }

        int order(int i) {
            if (i < -3 || i > 5) return -1;
            List<Walk> of = new ArrayList<>(walks());
            if (of.stream().anyMatch(w -> atDoor(w.end))) of.removeIf(w -> !atDoor(w.end));
            int fines = of.stream().mapToInt(w -> w.end.fines).min().getAsInt();
            of.removeIf(w -> w.end.fines != fines);
            int hour = of.stream().mapToInt(w -> w.end.hour).min().getAsInt();
            of.removeIf(w -> w.end.hour != hour);
            Walk best = of.get(0);
            if (i == -3) return hour - now.hour;
            if (i == -2) return fines - now.fines;
            if (i == -1) return atDoor(best.end) ? 1 : 0;
            return i < best.told.size() ? best.told.get(i) : -9;
        }

        int most(int i) {
            if (i < -1 || i > 5) return -1;
            List<Walk> of = new ArrayList<>(walks());
            int most = of.stream().mapToInt(w -> w.end.walked().size()).max().getAsInt();
            of.removeIf(w -> w.end.walked().size() != most);
            if (i == -1) return most;
            return i < of.get(0).told.size() ? of.get(0).told.get(i) : -9;
        }

        int rows(int what) {
            if (what < 0 || what > 5) return -1;
            Set<Integer> never = new HashSet<>();
            for (int s = 0; s < streets.size(); s++) never.add(s);
            never.removeAll(now.walked());
            Set<Integer> ends = new HashSet<>();
            Set<Integer> hides = new HashSet<>();
            int happy = 0;
            List<Integer> bread = new ArrayList<>();
            for (Walk w : walks()) {
                never.removeAll(w.end.walked());
                if (corners > 0) ends.add(w.end.at);
                int homes = 0;
                for (int k = 0; k < w.led.size(); k++) {
                    if (leaders.get(w.led.get(k)).home == w.places.get(k)) homes++;
                }
                happy = Math.max(happy, homes);
                bread.add(w.end.hour - now.hour);
                if (atDoor(w.end) && !w.led.isEmpty()) hides.add(w.led.get(w.led.size() - 1));
            }
            return List.of(bits(never), bits(ends), happy, Collections.min(bread), Collections.max(bread), bits(hides)).get(what);
        }

        int saw(int k, int c) {
            if (k < 0 || k > 5 || noCorner(c)) return -1;
            if (seen.size() == 6) return -3;
            seen.add(new int[] {k, c});
            return seen.size();
        }

        int forget() {
            int had = seen.size();
            seen.clear();
            return had;
        }

        int fits(int k) {
            if (k < -1 || k > 5) return -1;
            List<Walk> of = new ArrayList<>(walks());
            for (int[] s : seen) of.removeIf(w -> s[0] >= w.places.size() || w.places.get(s[0]) != s[1]);
            if (k == -1) return of.size();
            Set<Integer> who = new HashSet<>();
            for (Walk w : of) if (k < w.led.size()) who.add(w.led.get(k));
            return who.isEmpty() ? -9 : who.size() > 1 ? -5 : who.iterator().next();
        }

        int plans(int l) {
            if (noLeader(l)) return -1;
            if (plan.size() == 6) return -3;
            plan.add(l);
            return plan.size();
        }

        int drops() {
            int had = plan.size();
            plan.clear();
            return had;
        }

        List<Integer> able() {
            List<Integer> able = new ArrayList<>();
            for (int l : plan) if (!now.led.contains(l) && !able.contains(l)) able.add(l);
            return able;
        }

        int planned(int what) {
            if (what < 0 || what > 3) return -1;
            Now is = now;
            for (int l : able()) is = lead(is, l).now;
            return List.of(corners == 0 ? -9 : is.at, is.hour - now.hour, is.fines - now.fines, able().size()).get(what);
        }

        /** In tens to the power of those who may faint. */
        private long lucky(Now is, List<Integer> left, int x) {
            if (left.isEmpty()) return atDoor(is) ? 1 : 0;
            List<Integer> rest = left.subList(1, left.size());
            return x * lucky(is, rest, x) + (10 - x) * lucky(lead(is, left.get(0)).now, rest, x);
        }

        int odds(int x, int what) {
            if (x < 0 || x > 10 || what < 0 || what > 1) return -1;
            BigInteger upper = BigInteger.valueOf(lucky(now, able(), x));
            BigInteger lower = BigInteger.TEN.pow(able().size());
            BigInteger common = upper.gcd(lower);
            return (what == 0 ? upper : lower).divide(common).intValueExact();
        }

        int mark(int kind, int s) {
            if (kind < 0 || kind > 5 || noStreet(s)) return -1000000;
            int is = streets.get(s).hours;
            trace += new int[] {1, 11, 101, 1011, 10101, 100001}[kind];
            int ways = Integer.bitCount(street(s, 3));
            switch (kind) {
                case 1: return is + ways;
                case 2: return is - streets.get(s).b;
                case 3: return (is + ways) * 2;
                case 4: return is - streets.get(s).b + now.fines;
                case 5: return is + now.hour;
                default: return is;
            }
        }

        int keep(int i) {
            if (i != 0 && i != 1) return -1;
            images[i] = new Image(now, List.copyOf(past));
            return now.hour;
        }

        int back(int i) {
            if (i != 0 && i != 1) return -1;
            if (images[i] == null) return -2;
            now = images[i].now;
            past = new ArrayDeque<>(images[i].past);
            return now.hour;
        }

        int count(int what) {
            if (what < 0 || what > 6) return -1;
            return List.of(corners, streets.size(), leaders.size(), seen.size(), plan.size(), past.size(), text.length()).get(what);
        }
    }
}
