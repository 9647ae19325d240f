import com.sun.management.ThreadMXBean;
import java.lang.management.ManagementFactory;

/**
 * Whatever is asked, in whatever state: no call throws, none makes an object (all calls of one run
 * live in one room), none that is refused changes anything.
 */
public final class Room {
    private static final int[] WILD = {Integer.MIN_VALUE, Integer.MIN_VALUE + 1, -1000000, -10, -4, -3, -2, -1, 0, 1,
        2, 3, 4, 5, 6, 7, 8, 9, 10, 11, 12, 13, 24, 31, 32, 33, 63, 64, 99, 150, 255, 256, 1000000, Integer.MAX_VALUE};
    private static final String[] CITIES = {"", "c1;", "c1;l0 5;l0 5;l0 5;l0 5;l0 5;l0 5;",
        "c2;s0 1 9;s0 1 9;s0 1 9;s0 1 9;s0 1 9;s0 1 9;s0 1 9;s0 1 9;s0 1 9;s0 1 9;s0 1 9;s0 1 9;l1 5;l1 5;l0 5;l0 5;l1 5;l0 5;",
        "c8;s0 1 1;s1 2 2;s2 3 3;s3 4 4;s4 5 5;s5 6 6;s6 7 7;s7 0 8;s0 4 9;s1 5 9;s2 6 9;s3 7 9;l4 5;l5 5;l6 5;l7 5;l2 5;l0 5;"};
    private static int wrong = 0;

    public static void main(String[] args) {
        ThreadMXBean bean = (ThreadMXBean) ManagementFactory.getThreadMXBean();
        long me = Thread.currentThread().getId();
        for (String city : CITIES) {
            for (int method = 0; method < 25; method++) {
                FeastMarch x = new FeastMarch();
                FeastMarch warm = new FeastMarch();
                oneRun(warm, city, method);
                bean.getThreadAllocatedBytes(me);
                long before = bean.getThreadAllocatedBytes(me);
                oneRun(x, city, method);
                long made = bean.getThreadAllocatedBytes(me) - before;
                hold(made == 0, "method " + method + " in '" + city + "' made " + made + " bytes");
            }
            refused(city);
        }
        System.out.println(wrong == 0 ? "no call throws or makes an object" : wrong + " things are not as due");
        if (wrong != 0) {
            System.exit(1);
        }
    }

    private static void hold(boolean is, String what) {
        if (!is) {
            wrong++;
            System.out.println(what);
        }
    }

    private static void read(FeastMarch x, String city) {
        for (int i = 0; i < city.length(); i++) {
            x.type(city.charAt(i));
        }
        x.city();
    }

    /** At most 512 calls: a city, things done, then one method with wild arguments. */
    private static void oneRun(FeastMarch x, String city, int method) {
        read(x, city);
        for (int i = 0; i < 6; i++) {
            x.plans(5 - i);
            x.saw(i, 0);
            x.shuts(i + 6, 1);
            x.leads(i % 3);
            x.keep(i);
        }
        int second = 0;
        for (int i = 0; i < 300; i++) {
            call(x, method, WILD[i % WILD.length], WILD[second]);
            second = (second + 1 + i / WILD.length) % WILD.length;
        }
    }

    private static long call(FeastMarch x, int method, int a, int b) {
        switch (method) {
            case 0: return x.type(a);
            case 1: return x.clear();
            case 2: return x.city();
            case 3: return x.street(a, b);
            case 4: return x.leader(a, b);
            case 5: return x.far(a, b);
            case 6: return x.leads(a);
            case 7: return x.shuts(a, b);
            case 8: return x.undo();
            case 9: return x.now(a);
            case 10: return x.order(a);
            case 11: return x.most(a);
            case 12: return x.rows(a);
            case 13: return x.saw(a, b);
            case 14: return x.forget();
            case 15: return x.fits(a);
            case 16: return x.plans(a);
            case 17: return x.drops();
            case 18: return x.planned(a);
            case 19: return x.odds(a, b);
            case 20: return x.mark(a, b);
            case 21: return x.keep(a);
            case 22: return x.back(a);
            case 23: return x.count(a);
            default: return x.trace();
        }
    }

    /** Most of what an object can be asked without changing it, as one number; of its 512 calls some 150. */
    private static long state(FeastMarch x) {
        long sum = (x.trace() * 31 + x.order(-3)) * 31 + x.order(-2);
        for (int i = -1; i <= 6; i++) {
            sum = sum * 31 + x.now(i);
            sum = sum * 31 + x.count(i);
            sum = sum * 31 + x.order(i);
            sum = sum * 31 + x.most(i);
            sum = sum * 31 + x.rows(i);
            sum = sum * 31 + x.fits(i);
            sum = sum * 31 + x.planned(i);
            sum = sum * 31 + x.odds(3, i);
            for (int what = 0; what <= 4; what++) {
                sum = sum * 31 + x.street(i, what);
                sum = sum * 31 + x.leader(i, what);
            }
        }
        return sum;
    }

    private static void refused(String city) {
        int[] changing = {0, 2, 6, 7, 8, 13, 16, 20, 21, 22};
        for (int method : changing) {
            for (int a : WILD) {
                for (int b : WILD) {
                    FeastMarch x = new FeastMarch();
                    read(x, city);
                    x.type('?');
                    x.saw(0, 0);
                    x.plans(0);
                    x.leads(1);
                    x.shuts(1, 1);
                    long before = a < 13 && a > -2 && b < 3 && b > -2 ? state(x) : cheapState(x);
                    boolean refused = call(x, method, a, b) < 0 && !isMark(x, method, a, b);
                    long after = a < 13 && a > -2 && b < 3 && b > -2 ? state(x) : cheapState(x);
                    hold(!refused || before == after,
                            "method " + method + " (" + a + ", " + b + ") was refused in '" + city + "', but changed something");
                }
            }
        }
    }

    /** A bridge or quay may be below 0 without being refused. */
    private static boolean isMark(FeastMarch x, int method, int a, int b) {
        return method == 20 && x.mark(a, b) != FeastMarch.NO;
    }

    private static long cheapState(FeastMarch x) {
        long sum = x.trace();
        for (int i = 0; i <= 6; i++) {
            sum = (sum * 31 + x.now(i)) * 31 + x.count(i);
        }
        return sum;
    }
}
