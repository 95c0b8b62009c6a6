import java.util.ArrayList;
import java.util.Arrays;
import java.util.List;

/** Promises 26 to 29: bound, homeward, homewardAt, meet. */
public final class UndoneTest {
    private static final Check CHECK = new Check("UndoneTest");

    public static void main(String[] args) {
        bounds();
        home();
        everyOrder();
        meets();
        CHECK.end();
    }

    private static void bounds() {
        MaypoleGreen x = Check.of(Check.ring(5));
        CHECK.none(x, "bound(5)", x.bound(5), 1);
        CHECK.none(x, "bound(-1)", x.bound(-1), 1);
        CHECK.due(x, "bound(0) without a plait", x.bound(0), 0, 0);
        // a, b in gap 0; c, d in gap 2; a, d in gap 1; b, e in gap 4
        Check.dance(x, 1, 5, 2, 8);
        CHECK.due("bound(0): gap 0, 1, and 4 over 0", x.bound(0), 3);
        CHECK.due("bound(1): gap 0, 4, and 1 over 0", x.bound(1), 3);
        CHECK.due("bound(2): gap 2, and 1 over it", x.bound(2), 2);
        CHECK.due("bound(3): gap 2, 1", x.bound(3), 2);
        CHECK.due("bound(4): gap 4 alone", x.bound(4), 1);
        // gap 3 lies over 2 and 4: the ring is closed
        x.pass(3, true);
        CHECK.due("bound(0)", x.bound(0), 4);
        CHECK.due("bound(4)", x.bound(4), 2);
    }

    private static void home() {
        MaypoleGreen x = new MaypoleGreen();
        CHECK.due(x, "homeward() of nobody", x.homeward(), 0, 0);
        CHECK.none(x, "homewardAt(0)", x.homewardAt(0), 6);
        CHECK.none(x, "homewardAt(-1)", x.homewardAt(-1), 1);
        x = Check.of("long 2;" + Check.ring(4));
        Check.dance(x, 1, 3);
        // places: b c a d; ribbons do not matter
        CHECK.due(x, "homeward()", x.homeward(), 2, 0);
        CHECK.due(x, "homewardAt(0)", x.homewardAt(0), 1, 0);
        CHECK.due(x, "homewardAt(1)", x.homewardAt(1), 0, 0);
        CHECK.none(x, "homewardAt(2)", x.homewardAt(2), 6);
        CHECK.none(x, "homewardAt(max)", x.homewardAt(Integer.MAX_VALUE), 6);
        CHECK.none(x, "homewardAt(min)", x.homewardAt(Integer.MIN_VALUE), 1);
        // round the ring is nearer: d goes to place 0 by gap 3
        x = Check.of(Check.ring(4));
        Check.dance(x, 5, 3, 1);
        CHECK.due("homeward()", x.homeward(), 3);
        x = Check.of(Check.ring(4));
        Check.dance(x, 7);
        CHECK.due("homeward()", x.homeward(), 1);
        CHECK.due("homewardAt(0)", x.homewardAt(0), 3);
        CHECK.due("nothing changes by it", x.told(2), 1);
    }

    /** Every order of 2 to 7 dancers, by breadth from home; an order is one number, by tens. */
    private static void everyOrder() {
        for (int n = 2; n <= 7; n++) {
            int gaps = n == 2 ? 1 : n;
            int[] far = new int[10_000_000];
            Arrays.fill(far, -1);
            List<int[]> queue = new ArrayList<>();
            int[] first = new int[n];
            for (int k = 0; k < n; k++) {
                first[k] = k;
            }
            far[code(first)] = 0;
            queue.add(first);
            for (int at = 0; at < queue.size(); at++) {
                int[] from = queue.get(at);
                for (int gap = 0; gap < gaps; gap++) {
                    int[] to = exchanged(from, gap);
                    if (far[code(to)] < 0) {
                        far[code(to)] = far[code(from)] + 1;
                        queue.add(to);
                    }
                }
            }
            int step = n == 7 ? 7 : 1;
            for (int at = 0; at < queue.size(); at += step) {
                oneOrder(queue.get(at), far, gaps);
            }
        }
    }

    private static void oneOrder(int[] order, int[] far, int gaps) {
        MaypoleGreen x = Check.of("long 40;" + Check.ring(order.length));
        // to stand so, each place in turn is filled by neighbours' passes
        for (int place = 0; place < order.length; place++) {
            for (int k = x.dancer(order[place], 0); k > place; k--) {
                x.pass(k - 1, true);
            }
        }
        int due = far[code(order)];
        CHECK.due("homeward() of " + Arrays.toString(order), x.homeward(), due);
        int[] walk = order.clone();
        for (int k = 0; k < due; k++) {
            int gap = 0;
            while (far[code(exchanged(walk, gap))] != due - k - 1) {
                gap++;
            }
            CHECK.due("homewardAt(" + k + ") of " + Arrays.toString(order), x.homewardAt(k), gap);
            walk = exchanged(walk, gap);
        }
        CHECK.none(x, "homewardAt behind the last", x.homewardAt(due), 6);
        CHECK.due("gaps", x.told(1), gaps);
    }

    private static int[] exchanged(int[] order, int gap) {
        int[] to = order.clone();
        int next = (gap + 1) % order.length;
        to[gap] = order[next];
        to[next] = order[gap];
        return to;
    }

    private static int code(int[] order) {
        int code = 0;
        for (int who : order) {
            code = 10 * code + who;
        }
        return code;
    }

    private static void meets() {
        MaypoleGreen x = Check.of(Check.ring(7));
        int[] due = {0, 0, 1, 2, 2, 1, 0};
        for (int other = 1; other < 7; other++) {
            CHECK.due(x, "meet(0, " + other + ")", x.meet(0, other), due[other], 0);
            CHECK.due(x, "meet(" + other + ", 0)", x.meet(other, 0), due[other], 0);
        }
        CHECK.due(x, "meet(2, 4)", x.meet(2, 4), 1, 0);
        CHECK.due(x, "meet(5, 4)", x.meet(5, 4), 0, 0);
        CHECK.due(x, "meet(6, 2)", x.meet(6, 2), 2, 0);
        CHECK.none(x, "meet(0, 0)", x.meet(0, 0), 1);
        CHECK.none(x, "meet(0, 7)", x.meet(0, 7), 1);
        CHECK.none(x, "meet(-1, 0)", x.meet(-1, 0), 1);
        x.pass(3, true);
        CHECK.due("meet(0, 3): he stands in place 4", x.meet(0, 3), 2);
        x.pass(4, true);
        CHECK.due("meet(0, 3): he stands in place 5", x.meet(0, 3), 1);
        x = Check.of(Check.ring(2));
        CHECK.due(x, "meet(0, 1) of two", x.meet(0, 1), 0, 0);
    }
}
