/** Each promise of the document with ordinary inputs, its edges, and wrong inputs; values worked out by hand. */
public final class PromiseTest {
    private static final int NONE = -1;
    private static final int DOUBT = -2;
    private static final int NORTH = 1;
    private static final int EAST = 2;
    private static final int SOUTH = 3;
    private static final int WEST = 4;
    private static final int[] FAR = {Integer.MIN_VALUE, Integer.MIN_VALUE + 1, -2, Integer.MAX_VALUE};

    private static final Checks CHECKS = new Checks("PromiseTest");

    public static void main(String[] args) {
        promise1NewObject();
        promise2Shore();
        promise2ShoreRefusedWhereSomethingIs();
        promise3Weather();
        promise4Boom();
        promise4BoomsBetweenAllCells();
        promise5Lift();
        promise6Spill();
        promise7Skimmer();
        promise8Sail();
        promise8SailOverSeaOnly();
        promise9Empty();
        promise10Go();
        promise10Drift();
        promise10DriftFromEveryCell();
        promise10BoomsHold();
        promise10LossByAge();
        promise10Skimming();
        promise11Oil();
        promise12Foretold();
        promise13Worst();
        promise14Best();
        promise14BestBesideOthers();
        promise15Ship();
        promise16Could();
        promise17Sample();
        promise18Part();
        promise19Bill();
        promise20Told();
        promise21Count();
        CHECKS.finish();
    }

    private static void due(String call, long got, long want) {
        CHECKS.due(call, got, want);
    }

    private static void due(String call, boolean got, boolean want) {
        CHECKS.due(call, got, want);
    }

    private static OilWatch begin(String where) {
        CHECKS.at(where);
        return new OilWatch();
    }

    private static void promise1NewObject() {
        OilWatch x = begin("promise 1");
        due("NONE", OilWatch.NONE, -1);
        for (int what = 0; what <= 10; what++) {
            due("count(" + what + ")", x.count(what), 0);
        }
        for (int cell = 0; cell < 96; cell++) {
            due("oil(" + cell + ")", x.oil(cell), 0);
            due("spill(" + cell + ", 1): all is sea", x.spill(cell, 1), 1);
        }
        due("foretold(0, 48)", x.foretold(0, 48), 0);
        due("bill(3)", x.bill(3), 0);
    }

    private static void promise2Shore() {
        OilWatch x = begin("promise 2");
        due("shore(0, 1)", x.shore(0, 1), true);
        due("shore(95, 9)", x.shore(95, 9), true);
        due("spill(95, 1) on shore", x.spill(95, 1), NONE);
        due("shore(95, 0): sea again", x.shore(95, 0), true);
        due("spill(95, 1)", x.spill(95, 1), 1);
        due("shore(50, 0): sea already", x.shore(50, 0), true);
        due("shore(-1, 1)", x.shore(-1, 1), false);
        due("shore(96, 1)", x.shore(96, 1), false);
        due("shore(1, -1)", x.shore(1, -1), false);
        due("shore(1, 10)", x.shore(1, 10), false);
        due("spill(1, 2000): refused left it sea", x.spill(1, 2000), 2000);
        due("shore(0, 7): another rank", x.shore(0, 7), true);
        due("shore(0, 10)", x.shore(0, 10), false);
        for (int far : FAR) {
            due("shore(" + far + ", 1)", x.shore(far, 1), false);
            due("shore(2, " + far + ")", x.shore(2, far), false);
        }
        due("go(0)", x.go(0), 0);
        due("shore(40, 2) after go(0)", x.shore(40, 2), true);
        x.weather(0, 0, WEST, 0);
        x.go(1);
        due("count(7): 1000 liters by the later rank", x.count(7), 7);
        due("shore(60, 1) at 1", x.shore(60, 1), false);
        due("shore(40, 0) at 1", x.shore(40, 0), false);
    }

    private static void promise2ShoreRefusedWhereSomethingIs() {
        OilWatch x = begin("promise 2, taken cells");
        x.spill(10, 1);
        x.skimmer(20, 1, 1, 1);
        x.boom(30, 31, 0);
        x.boom(44, 56, 0);
        x.ship(0, 70, 0);
        int[] taken = {10, 20, 30, 31, 44, 56, 70};
        for (int cell : taken) {
            due("shore(" + cell + ", 1)", x.shore(cell, 1), false);
            due("shore(" + cell + ", 0)", x.shore(cell, 0), false);
        }
        int[] free = {9, 11, 19, 32, 29, 18, 42, 43, 45, 32, 68, 71};
        for (int cell : free) {
            due("shore(" + cell + ", 1)", x.shore(cell, 1), true);
        }
        x.lift(0);
        due("shore(30, 1) after lift", x.shore(30, 1), true);
        due("shore(31, 1) after lift", x.shore(31, 1), true);
        due("sail(0, 21)", x.sail(0, 21), true);
        due("shore(20, 1) after it went", x.shore(20, 1), true);
        due("shore(21, 1) where it went", x.shore(21, 1), false);
    }

    private static void promise3Weather() {
        OilWatch x = begin("promise 3");
        due("weather(0, 0, 0, 0)", x.weather(0, 0, 0, 0), true);
        due("weather(2, 500, 4, 9)", x.weather(2, 500, 4, 9), true);
        due("weather(1, 0, 0, 9)", x.weather(1, 0, 0, 9), true);
        due("weather(-1, 0, 0, 0)", x.weather(-1, 0, 0, 0), false);
        due("weather(3, 0, 0, 0)", x.weather(3, 0, 0, 0), false);
        due("weather(0, -1, 0, 0)", x.weather(0, -1, 0, 0), false);
        due("weather(0, 501, 0, 0)", x.weather(0, 501, 0, 0), false);
        due("weather(0, 0, -1, 0)", x.weather(0, 0, -1, 0), false);
        due("weather(0, 0, 5, 0)", x.weather(0, 0, 5, 0), false);
        due("weather(0, 0, 0, -1)", x.weather(0, 0, 0, -1), false);
        due("weather(0, 0, 0, 10)", x.weather(0, 0, 0, 10), false);
        for (int far : FAR) {
            due("weather(" + far + ", 0, 0, 0)", x.weather(far, 0, 0, 0), false);
            due("weather(0, " + far + ", 0, 0)", x.weather(0, far, 0, 0), false);
            due("weather(0, 0, " + far + ", 0)", x.weather(0, 0, far, 0), false);
            due("weather(0, 0, 0, " + far + ")", x.weather(0, 0, 0, far), false);
        }
        x.spill(50, 1000);
        x.weather(0, 0, EAST, 0);
        x.weather(0, 0, SOUTH, 0);
        x.weather(1, 0, WEST, 0);
        due("weather(0, 0, 5, 9): refused", x.weather(0, 0, 5, 9), false);
        x.go(1);
        due("oil(62): the later weather", x.oil(62), 485);
        due("oil(51)", x.oil(51), 0);
        due("oil(49)", x.oil(49), 0);
        due("weather(0, 0, 1, 1) of the past", x.weather(0, 0, 1, 1), false);
        due("weather(1, 0, 1, 1) of the past", x.weather(1, 0, 1, 1), false);
        due("weather(0, 1, 1, 1) now", x.weather(0, 1, 1, 1), true);
    }

    private static void promise4Boom() {
        OilWatch x = begin("promise 4");
        x.shore(5, 1);
        due("boom(0, 1, 0)", x.boom(0, 1, 0), 0);
        due("boom(13, 1, 9): below one another", x.boom(13, 1, 9), 1);
        due("boom(1, 0, 3): there is one", x.boom(1, 0, 3), NONE);
        due("boom(0, 1, 3): there is one", x.boom(0, 1, 3), NONE);
        due("boom(4, 5, 3): shore", x.boom(4, 5, 3), NONE);
        due("boom(5, 17, 3): shore", x.boom(5, 17, 3), NONE);
        due("boom(11, 12, 3): another row", x.boom(11, 12, 3), NONE);
        due("boom(20, 22, 3): apart", x.boom(20, 22, 3), NONE);
        due("boom(20, 33, 3): aslant", x.boom(20, 33, 3), NONE);
        due("boom(20, 20, 3): the same", x.boom(20, 20, 3), NONE);
        due("boom(20, 44, 3): two rows", x.boom(20, 44, 3), NONE);
        due("boom(95, 96, 3)", x.boom(95, 96, 3), NONE);
        due("boom(84, 96, 3)", x.boom(84, 96, 3), NONE);
        due("boom(0, -1, 3)", x.boom(0, -1, 3), NONE);
        due("boom(20, 21, -1)", x.boom(20, 21, -1), NONE);
        due("boom(20, 21, 10)", x.boom(20, 21, 10), NONE);
        for (int far : FAR) {
            due("boom(" + far + ", 1, 3)", x.boom(far, 1, 3), NONE);
            due("boom(1, " + far + ", 3)", x.boom(1, far, 3), NONE);
            due("boom(1, 2, " + far + ")", x.boom(1, 2, far), NONE);
        }
        due("count(9)", x.count(9), 2);
        for (int i = 2; i < 20; i++) {
            due("boom(" + (22 + i) + ", " + (34 + i) + ", 5)", x.boom(22 + i, 34 + i, 5), i);
        }
        due("boom(90, 91, 5): 20 are there", x.boom(90, 91, 5), NONE);
        due("count(9)", x.count(9), 20);
        x.lift(11);
        x.lift(4);
        due("boom(90, 91, 5): the least free", x.boom(90, 91, 5), 4);
        due("boom(91, 92, 5)", x.boom(91, 92, 5), 11);
    }

    private static void promise4BoomsBetweenAllCells() {
        for (int a = 0; a < 96; a++) {
            OilWatch x = begin("promise 4, beside cell " + a);
            for (int b = 0; b < 96; b++) {
                boolean beside = Math.abs(a / 12 - b / 12) + Math.abs(a % 12 - b % 12) == 1;
                due("boom(" + a + ", " + b + ", 1)", x.boom(a, b, 1) != NONE, beside);
            }
            int number = x.count(9);
            for (int b = 0; b < 95; b++) {
                boolean eastward = b % 12 < 11 && b != a && b + 1 != a;
                due("boom(" + b + ", " + (b + 1) + ", 1)", x.boom(b, b + 1, 1), eastward ? number : NONE);
                due("lift(" + number + ")", x.lift(number), eastward);
                boolean southward = b < 84 && b != a && b + 12 != a;
                due("boom(" + b + ", " + (b + 12) + ", 1)", x.boom(b, b + 12, 1), southward ? number : NONE);
                due("lift(" + number + ")", x.lift(number), southward);
            }
        }
    }

    private static void promise5Lift() {
        OilWatch x = begin("promise 5");
        due("lift(0) of none", x.lift(0), false);
        x.boom(50, 51, 9);
        x.boom(51, 52, 9);
        due("lift(-1)", x.lift(-1), false);
        due("lift(2)", x.lift(2), false);
        due("lift(20)", x.lift(20), false);
        for (int far : FAR) {
            due("lift(" + far + ")", x.lift(far), false);
        }
        due("lift(0)", x.lift(0), true);
        due("count(9)", x.count(9), 1);
        due("lift(0) again", x.lift(0), false);
        due("count(9)", x.count(9), 1);
        x.spill(50, 1000);
        x.weather(0, 0, EAST, 0);
        x.go(1);
        due("oil(51): nothing holds it", x.oil(51), 485);
        due("boom(50, 51, 1) anew", x.boom(50, 51, 1), 0);
        due("lift(1)", x.lift(1), true);
    }

    private static void promise6Spill() {
        OilWatch x = begin("promise 6");
        x.shore(7, 2);
        due("spill(0, 1)", x.spill(0, 1), 1);
        due("spill(0, 100000)", x.spill(0, 100000), 100001);
        due("spill(7, 5) on shore", x.spill(7, 5), NONE);
        due("spill(-1, 5)", x.spill(-1, 5), NONE);
        due("spill(96, 5)", x.spill(96, 5), NONE);
        due("spill(1, 0)", x.spill(1, 0), NONE);
        due("spill(1, -1)", x.spill(1, -1), NONE);
        due("spill(1, 100001)", x.spill(1, 100001), NONE);
        for (int far : FAR) {
            due("spill(" + far + ", 1)", x.spill(far, 1), NONE);
            due("spill(1, " + far + ")", x.spill(1, far), NONE);
        }
        due("count(1)", x.count(1), 100001);
        for (int i = 1; i <= 8; i++) {
            due("spill(95, 100000)", x.spill(95, 100000), 100000 * i);
        }
        due("spill(50, 100000): too much in all", x.spill(50, 100000), NONE);
        due("oil(50)", x.oil(50), 0);
        due("spill(50, 99999): just as much as can be", x.spill(50, 99999), 99999);
        due("count(1)", x.count(1), 1000000);
        due("spill(50, 1)", x.spill(50, 1), NONE);
        x.go(48);
        due("spill(50, 1): what is lost was spilled too", x.spill(50, 1), NONE);
    }

    private static void promise7Skimmer() {
        OilWatch x = begin("promise 7");
        x.shore(7, 2);
        due("skimmer(7, 1, 1, 1) on shore", x.skimmer(7, 1, 1, 1), NONE);
        due("skimmer(-1, 1, 1, 1)", x.skimmer(-1, 1, 1, 1), NONE);
        due("skimmer(96, 1, 1, 1)", x.skimmer(96, 1, 1, 1), NONE);
        due("skimmer(0, 0, 1, 1)", x.skimmer(0, 0, 1, 1), NONE);
        due("skimmer(0, 5001, 1, 1)", x.skimmer(0, 5001, 1, 1), NONE);
        due("skimmer(0, 1, -1, 1)", x.skimmer(0, 1, -1, 1), NONE);
        due("skimmer(0, 1, 100001, 1)", x.skimmer(0, 1, 100001, 1), NONE);
        due("skimmer(0, 1, 1, 0)", x.skimmer(0, 1, 1, 0), NONE);
        due("skimmer(0, 1, 1, 4)", x.skimmer(0, 1, 1, 4), NONE);
        for (int far : FAR) {
            due("skimmer(" + far + ", 1, 1, 1)", x.skimmer(far, 1, 1, 1), NONE);
            due("skimmer(0, " + far + ", 1, 1)", x.skimmer(0, far, 1, 1), NONE);
            due("skimmer(0, 1, " + far + ", 1)", x.skimmer(0, 1, far, 1), NONE);
            due("skimmer(0, 1, 1, " + far + ")", x.skimmer(0, 1, 1, far), NONE);
        }
        due("skimmer(0, 1, 0, 1)", x.skimmer(0, 1, 0, 1), 0);
        due("skimmer(95, 5000, 100000, 3)", x.skimmer(95, 5000, 100000, 3), 1);
        due("skimmer(0, 7, 7, 2)", x.skimmer(0, 7, 7, 2), 2);
        due("skimmer(1, 7, 7, 2)", x.skimmer(1, 7, 7, 2), 3);
        due("skimmer(2, 7, 7, 2): 4 came", x.skimmer(2, 7, 7, 2), NONE);
        due("told(1, 0)", x.told(1, 0), 95);
        due("told(4, 0)", x.told(4, 0), NONE);
        for (int i = 0; i < 4; i++) {
            due("told(" + i + ", 3): it didn't go yet", x.told(i, 3), 0);
        }
    }

    private static void promise8Sail() {
        OilWatch x = begin("promise 8");
        due("sail(0, 0) of none", x.sail(0, 0), false);
        x.skimmer(50, 10, 100, 1);
        x.skimmer(50, 10, 100, 2);
        x.skimmer(50, 10, 100, 3);
        due("sail(0, 52): too far", x.sail(0, 52), false);
        due("sail(0, 63): too far aslant", x.sail(0, 63), false);
        due("told(0, 3): refused is not gone", x.told(0, 3), 0);
        due("sail(0, 51)", x.sail(0, 51), true);
        due("told(0, 0)", x.told(0, 0), 51);
        due("sail(0, 50): it went in this hour", x.sail(0, 50), false);
        due("sail(1, 53): too far", x.sail(1, 53), false);
        due("sail(1, 63)", x.sail(1, 63), true);
        due("sail(2, 64): 1 row, 2 columns", x.sail(2, 64), true);
        due("sail(3, 50) of none", x.sail(3, 50), false);
        due("sail(-1, 50) of none", x.sail(-1, 50), false);
        x.go(0);
        due("sail(0, 50) after no hour", x.sail(0, 50), false);
        x.go(1);
        due("sail(0, -1)", x.sail(0, -1), false);
        due("sail(0, 96)", x.sail(0, 96), false);
        for (int far : FAR) {
            due("sail(0, " + far + ")", x.sail(0, far), false);
            due("sail(" + far + ", 50)", x.sail(far, 50), false);
        }
        due("sail(0, 39) in the next hour", x.sail(0, 39), true);
        due("sail(2, 28): 3 rows", x.sail(2, 28), true);
        due("sail(1, 62)", x.sail(1, 62), true);
        x.go(1);
        due("sail(1, 62): by no cells is up to its speed", x.sail(1, 62), true);
        due("told(1, 3)", x.told(1, 3), 1);
        x = begin("promise 8, rows' ends");
        x.skimmer(23, 10, 100, 3);
        due("sail(0, 24): the next number, but far away", x.sail(0, 24), false);
        due("sail(0, 26)", x.sail(0, 26), false);
    }

    private static void promise8SailOverSeaOnly() {
        OilWatch x = begin("promise 8, over sea");
        x.shore(51, 1);
        x.shore(62, 1);
        x.skimmer(50, 10, 100, 3);
        due("sail(0, 51): shore", x.sail(0, 51), false);
        due("sail(0, 52): shore between", x.sail(0, 52), false);
        due("sail(0, 74): shore between", x.sail(0, 74), false);
        due("sail(0, 63): shore both ways, 4 cells around", x.sail(0, 63), false);
        due("sail(0, 64)", x.sail(0, 64), false);
        due("sail(0, 40): around by north", x.sail(0, 40), true);
        x = begin("promise 8, a bend");
        x.shore(51, 1);
        x.shore(39, 1);
        x.skimmer(50, 10, 100, 2);
        due("sail(0, 63): by south", x.sail(0, 63), true);
        x = begin("promise 8, booms don't matter");
        x.boom(50, 51, 9);
        x.skimmer(50, 10, 100, 1);
        due("sail(0, 51)", x.sail(0, 51), true);
    }

    private static void promise9Empty() {
        OilWatch x = begin("promise 9");
        due("empty(0) of none", x.empty(0), NONE);
        x.spill(50, 1000);
        x.skimmer(50, 100, 150, 1);
        due("empty(0): it had nothing", x.empty(0), 0);
        x.go(2);
        due("told(0, 1): full", x.told(0, 1), 150);
        due("empty(0)", x.empty(0), 150);
        due("empty(0) again", x.empty(0), 0);
        due("told(0, 1)", x.told(0, 1), 0);
        due("told(0, 2)", x.told(0, 2), 150);
        x.go(1);
        due("told(0, 1): room again", x.told(0, 1), 100);
        due("told(0, 2)", x.told(0, 2), 250);
        due("count(6)", x.count(6), 250);
        due("empty(-1)", x.empty(-1), NONE);
        due("empty(1)", x.empty(1), NONE);
        due("empty(4)", x.empty(4), NONE);
        for (int far : FAR) {
            due("empty(" + far + ")", x.empty(far), NONE);
        }
        due("count(6)", x.count(6), 250);
    }

    private static void promise10Go() {
        OilWatch x = begin("promise 10");
        due("go(0)", x.go(0), 0);
        due("go(-1)", x.go(-1), NONE);
        due("go(49)", x.go(49), NONE);
        for (int far : FAR) {
            due("go(" + far + ")", x.go(far), NONE);
        }
        due("count(0)", x.count(0), 0);
        due("go(48)", x.go(48), 48);
        for (int i = 2; i <= 10; i++) {
            due("go(48)", x.go(48), 48 * i);
        }
        due("go(19)", x.go(19), 499);
        x.skimmer(0, 1, 1, 1);
        x.spill(0, 2000);
        due("go(48): up to 500", x.go(48), 500);
        due("count(8): one hour only", x.count(8), 52);
        due("sail(0, 1)", x.sail(0, 1), true);
        due("go(1)", x.go(1), 500);
        due("told(0, 3): no hour went", x.told(0, 3), 1);
        due("count(8)", x.count(8), 52);
        due("go(49)", x.go(49), NONE);
    }

    private static void promise10Drift() {
        int[] ways = {NORTH, EAST, SOUTH, WEST};
        int[] ahead = {38, 51, 62, 49};
        for (int i = 0; i < 4; i++) {
            OilWatch x = begin("promise 10, drift by way " + ways[i]);
            x.spill(50, 33);
            x.weather(0, 0, ways[i], 9);
            x.go(1);
            due("oil(" + ahead[i] + "): half, cut", x.oil(ahead[i]), 16);
            due("oil(50)", x.oil(50), 17);
        }
        for (int i = 0; i < 4; i++) {
            OilWatch x = begin("promise 10, all at once by way " + ways[i]);
            int next = ahead[i] + (ahead[i] - 50);
            x.spill(50, 1000);
            x.spill(ahead[i], 200);
            x.weather(0, 0, ways[i], 9);
            x.go(1);
            due("oil(50): 500 less 15", x.oil(50), 485);
            due("oil(" + ahead[i] + "): 600 less 18", x.oil(ahead[i]), 582);
            due("oil(" + next + "): 100 less 3", x.oil(next), 97);
            due("count(3)", x.count(3), 36);
        }
        int[] edges = {5, 47, 90, 48};
        for (int i = 0; i < 4; i++) {
            OilWatch x = begin("promise 10, away by way " + ways[i]);
            x.spill(edges[i], 1001);
            x.weather(0, 0, ways[i], 9);
            x.go(1);
            due("count(5)", x.count(5), 500);
            due("oil(" + edges[i] + "): 501 less 15", x.oil(edges[i]), 486);
            due("count(2)", x.count(2), 486);
        }
        OilWatch x = begin("promise 10, ashore stays");
        x.shore(51, 3);
        x.spill(50, 1000);
        x.weather(0, 0, EAST, 0);
        x.weather(0, 1, EAST, 0);
        x.go(2);
        due("oil(51): 500 and 242, none lost", x.oil(51), 742);
        due("oil(52)", x.oil(52), 0);
        due("count(4)", x.count(4), 742);
        due("count(3): 15 and 7", x.count(3), 22);
    }

    private static void promise10DriftFromEveryCell() {
        int[] rowSteps = {0, -1, 0, 1, 0};
        int[] columnSteps = {0, 0, 1, 0, -1};
        for (int cell = 0; cell < 96; cell++) {
            for (int way = 0; way <= 4; way++) {
                OilWatch x = begin("promise 10, from cell " + cell + " by way " + way);
                int row = cell / 12 + rowSteps[way];
                int column = cell % 12 + columnSteps[way];
                boolean leaves = row < 0 || row > 7 || column < 0 || column > 11;
                x.spill(cell, 30);
                x.ship(1, cell, 0);
                x.weather(0, 0, way, 5);
                x.go(1);
                due("oil(" + cell + ")", x.oil(cell), way == 0 ? 30 : 15);
                due("count(5)", x.count(5), leaves ? 15 : 0);
                due("count(2)", x.count(2), leaves ? 15 : 30);
                if (!leaves && way != 0) {
                    due("oil ahead", x.oil(row * 12 + column), 15);
                }
                for (int other = 0; other < 96; other++) {
                    boolean ahead = !leaves && other == row * 12 + column;
                    due("could(0, " + other + ")", x.could(0, other), other == cell || ahead);
                }
                OilWatch y = begin("promise 10, ashore from cell " + cell + " by way " + way);
                if (!leaves && way != 0) {
                    y.shore(row * 12 + column, 3);
                    y.spill(cell, 2000);
                    y.weather(0, 0, way, 5);
                    due("foretold(0, 1)", y.foretold(0, 1), 3);
                    y.go(1);
                    due("count(4)", y.count(4), 1000);
                    due("count(7)", y.count(7), 3);
                }
            }
        }
    }

    private static void promise10BoomsHold() {
        OilWatch x = begin("promise 10, booms");
        x.boom(51, 50, 4);
        x.spill(50, 199);
        x.weather(0, 0, EAST, 4);
        due("oil(51) ahead", x.oil(51), 0);
        x.go(1);
        due("oil(51): a tenth of 99, cut", x.oil(51), 9);
        due("oil(50): 190 less 5", x.oil(50), 185);
        x.weather(0, 1, EAST, 5);
        x.go(1);
        due("oil(51): above its limit all passes", x.oil(51), 5 + 92 - 2);
        x = begin("promise 10, booms hold both ways");
        x.boom(50, 51, 9);
        x.spill(51, 1000);
        x.weather(0, 0, WEST, 9);
        x.weather(0, 1, NORTH, 9);
        x.go(1);
        due("oil(50): 50 less 1", x.oil(50), 49);
        x.go(1);
        due("oil(39): not between these", x.oil(39), (950 - 28) / 2 - 13);
        x = begin("promise 10, a boom between rows");
        x.boom(50, 62, 0);
        x.spill(62, 1000);
        x.spill(50, 40);
        x.weather(0, 0, NORTH, 0);
        x.weather(0, 1, SOUTH, 1);
        x.go(1);
        due("oil(50): 20 and 50, less 2", x.oil(50), 68);
        x.go(1);
        due("oil(50): 34 and 10 from 38, less 1", x.oil(50), 43);
    }

    private static void promise10LossByAge() {
        int[] ages = {0, 11, 12, 47, 48, 200};
        int[] left = {970, 970, 990, 990, 998, 998};
        for (int i = 0; i < ages.length; i++) {
            for (int first = 0; first <= 9; first += 9) {
                OilWatch x = begin("promise 10, age " + ages[i] + " from hour " + first);
                x.go(first);
                x.spill(0, 1);
                for (int hour = 0; hour < ages[i]; hour++) {
                    x.go(1);
                }
                x.spill(50, 1000);
                x.go(1);
                due("oil(50)", x.oil(50), left[i]);
                due("oil(0): cut", x.oil(0), 1);
                due("count(3)", x.count(3), 1000 - left[i]);
            }
        }
    }

    private static void promise10Skimming() {
        OilWatch x = begin("promise 10, skimmers by numbers");
        x.spill(50, 1000);
        x.skimmer(50, 800, 2000, 1);
        x.skimmer(50, 500, 2000, 1);
        x.go(1);
        due("told(0, 1): its rate", x.told(0, 1), 800);
        due("told(1, 1): what is there after the loss", x.told(1, 1), 170);
        due("oil(50)", x.oil(50), 0);
        x = begin("promise 10, room");
        x.spill(50, 1000);
        x.skimmer(50, 800, 30, 1);
        x.skimmer(50, 500, 0, 1);
        x.skimmer(51, 500, 5000, 1);
        x.go(1);
        due("told(0, 1): its room", x.told(0, 1), 30);
        due("told(1, 1): no room", x.told(1, 1), 0);
        due("told(2, 1): elsewhere", x.told(2, 1), 0);
        due("oil(50)", x.oil(50), 940);
        x = begin("promise 10, skimmed after the drift");
        x.spill(50, 1000);
        x.weather(0, 0, EAST, 0);
        x.skimmer(51, 5000, 5000, 1);
        x.go(1);
        due("told(0, 1)", x.told(0, 1), 485);
        due("oil(50)", x.oil(50), 485);
    }

    private static void promise11Oil() {
        OilWatch x = begin("promise 11");
        x.shore(1, 9);
        x.spill(0, 500);
        due("oil(0)", x.oil(0), 500);
        due("oil(1)", x.oil(1), 0);
        due("oil(95)", x.oil(95), 0);
        due("oil(-1)", x.oil(-1), NONE);
        due("oil(96)", x.oil(96), NONE);
        for (int far : FAR) {
            due("oil(" + far + ")", x.oil(far), NONE);
        }
        x.weather(0, 0, EAST, 0);
        x.go(1);
        due("oil(0)", x.oil(0), 243);
        due("oil(1): ashore", x.oil(1), 250);
    }

    private static void promise12Foretold() {
        OilWatch x = begin("promise 12");
        x.shore(51, 9);
        x.shore(49, 5);
        x.spill(50, 10000);
        x.weather(0, 0, EAST, 0);
        x.weather(1, 1, WEST, 0);
        due("foretold(0, 0)", x.foretold(0, 0), 0);
        due("foretold(0, 1)", x.foretold(0, 1), 45);
        due("foretold(0, 48)", x.foretold(0, 48), 45);
        due("foretold(1, 1)", x.foretold(1, 1), 0);
        due("foretold(1, 2): half of 9700 times 5", x.foretold(1, 2), 24);
        due("foretold(2, 48)", x.foretold(2, 48), 0);
        due("foretold(-1, 1)", x.foretold(-1, 1), NONE);
        due("foretold(3, 1)", x.foretold(3, 1), NONE);
        due("foretold(0, -1)", x.foretold(0, -1), NONE);
        due("foretold(0, 49)", x.foretold(0, 49), NONE);
        for (int far : FAR) {
            due("foretold(" + far + ", 1)", x.foretold(far, 1), NONE);
            due("foretold(0, " + far + ")", x.foretold(0, far), NONE);
        }
        due("oil(50): nothing went", x.oil(50), 10000);
        due("count(0)", x.count(0), 0);
        due("count(3)", x.count(3), 0);
        x.go(1);
        due("foretold(2, 0): harm that is", x.foretold(2, 0), 45);
        due("foretold(1, 1): 4850 half ashore too", x.foretold(1, 1), (5000 * 9 + 2425 * 5) / 1000);
        x = begin("promise 12, skimmers stay and take");
        x.shore(51, 9);
        x.spill(50, 10000);
        x.skimmer(50, 5000, 6000, 1);
        x.weather(0, 2, EAST, 0);
        due("foretold(0, 3): 5000, 1000 taken", x.foretold(0, 3), ((4700 - 141 - 1000) / 2) * 9 / 1000);
        due("told(0, 1): nothing taken in truth", x.told(0, 1), 0);
        x.sail(0, 62);
        due("foretold(0, 3): it stays where it is", x.foretold(0, 3), ((9700 - 291) / 2) * 9 / 1000);
        due("told(0, 3)", x.told(0, 3), 1);
        x = begin("promise 12, age and weather near the last hour");
        x.shore(51, 9);
        for (int i = 0; i < 11; i++) {
            x.go(48);
        }
        x.spill(50, 100000);
        x.weather(1, 500, EAST, 0);
        due("foretold(1, 1) at 500", x.foretold(1, 1), 450);
        due("foretold(1, 48) at 500: no weather later", x.foretold(1, 48), 450);
        due("foretold(0, 48) at 500", x.foretold(0, 48), 0);
    }

    private static void promise13Worst() {
        for (int world = 0; world < 3; world++) {
            OilWatch x = begin("promise 13, world " + world);
            x.shore(51, 9);
            x.shore(49, 5);
            x.spill(50, 10000);
            for (int other = 0; other < 3; other++) {
                x.weather(other, 0, other == world ? EAST : WEST, 0);
            }
            due("worst(0)", x.worst(0), 0);
            due("worst(1)", x.worst(1), 45);
            due("worst(48)", x.worst(48), 45);
            due("worst(-1)", x.worst(-1), NONE);
            due("worst(49)", x.worst(49), NONE);
            for (int far : FAR) {
                due("worst(" + far + ")", x.worst(far), NONE);
            }
            due("oil(50)", x.oil(50), 10000);
            due("count(0)", x.count(0), 0);
        }
    }

    private static void promise14Best() {
        OilWatch x = begin("promise 14");
        due("best(0, 1, 0) of none", x.best(0, 1, 0), NONE);
        x.skimmer(50, 1000, 1400, 1);
        due("best(0, 1, 0): no oil", x.best(0, 1, 0), 0);
        due("best(0, 1, 1): the first cell of all", x.best(0, 1, 1), 38);
        due("best(0, 3, 1)", x.best(0, 3, 1), 38);
        x.spill(52, 1000);
        x.spill(49, 100);
        due("best(0, 1, 0)", x.best(0, 1, 0), 97);
        due("best(0, 1, 1)", x.best(0, 1, 1), 49);
        due("best(0, 2, 0): 970 less 29 in the second hour", x.best(0, 2, 0), 941);
        due("best(0, 2, 1)", x.best(0, 2, 1), 51);
        due("best(0, 3, 0)", x.best(0, 3, 0), 941);
        due("best(0, 3, 1)", x.best(0, 3, 1), 51);
        x.spill(49, 400);
        due("best(0, 3, 0): 485 at first, nothing within two more hours", x.best(0, 3, 0), 941);
        due("best(0, 0, 0)", x.best(0, 0, 0), NONE);
        due("best(0, 4, 0)", x.best(0, 4, 0), NONE);
        due("best(0, 1, 2)", x.best(0, 1, 2), NONE);
        due("best(0, 1, -1)", x.best(0, 1, -1), NONE);
        due("best(1, 1, 0)", x.best(1, 1, 0), NONE);
        due("best(-1, 1, 0)", x.best(-1, 1, 0), NONE);
        for (int far : FAR) {
            due("best(" + far + ", 1, 0)", x.best(far, 1, 0), NONE);
            due("best(0, " + far + ", 0)", x.best(0, far, 0), NONE);
            due("best(0, 1, " + far + ")", x.best(0, 1, far), NONE);
        }
        due("told(0, 0): it didn't go", x.told(0, 0), 50);
        due("told(0, 1)", x.told(0, 1), 0);
        due("told(0, 3)", x.told(0, 3), 0);
        due("oil(52)", x.oil(52), 1000);
        x.sail(0, 51);
        due("best(0, 1, 0): it went in this hour", x.best(0, 1, 0), NONE);
        due("best(0, 1, 1): it went in this hour", x.best(0, 1, 1), NONE);
        x.go(1);
        due("best(0, 1, 0) in the next hour", x.best(0, 1, 0), 941);
        due("best(0, 1, 1)", x.best(0, 1, 1), 52);
        x = begin("promise 14, in the net's corners");
        x.skimmer(0, 10, 100, 2);
        x.skimmer(95, 10, 100, 2);
        x.spill(0, 500);
        x.spill(95, 500);
        due("best(0, 1, 1)", x.best(0, 1, 1), 0);
        due("best(1, 1, 1)", x.best(1, 1, 1), 95);
        x = begin("promise 14, room and the true world's weather");
        x.skimmer(50, 1000, 300, 3);
        x.spill(53, 1000);
        x.weather(0, 0, WEST, 0);
        x.weather(1, 0, EAST, 0);
        due("best(0, 1, 0): room", x.best(0, 1, 0), 300);
        due("best(0, 1, 1): drifted to 52 and left in 53", x.best(0, 1, 1), 52);
        due("best(0, 3, 0)", x.best(0, 3, 0), 300);
        due("best(0, 3, 1): late enough from the first cell", x.best(0, 3, 1), 14);
    }

    private static void promise14BestBesideOthers() {
        OilWatch x = begin("promise 14, others stay");
        x.spill(50, 1000);
        x.spill(51, 600);
        x.skimmer(50, 900, 5000, 1);
        x.skimmer(50, 900, 5000, 1);
        due("best(0, 1, 0): the first number takes first", x.best(0, 1, 0), 900);
        due("best(0, 1, 1)", x.best(0, 1, 1), 50);
        due("best(1, 1, 0): 970 less 900, or 582", x.best(1, 1, 0), 582);
        due("best(1, 1, 1)", x.best(1, 1, 1), 51);
        due("best(0, 2, 0): 900, then 565", x.best(0, 2, 0), 1465);
        due("best(0, 2, 1)", x.best(0, 2, 1), 50);
        due("best(1, 2, 0): 582, then the last of 50 is gone", x.best(1, 2, 0), 70 + 565);
        due("best(1, 2, 1)", x.best(1, 2, 1), 50);
    }

    private static void promise15Ship() {
        OilWatch x = begin("promise 15");
        x.shore(7, 1);
        due("ship(-1, 0, 0)", x.ship(-1, 0, 0), NONE);
        due("ship(1000000, 0, 0)", x.ship(1000000, 0, 0), NONE);
        due("ship(0, -1, 0)", x.ship(0, -1, 0), NONE);
        due("ship(0, 96, 0)", x.ship(0, 96, 0), NONE);
        due("ship(0, 7, 0) on shore", x.ship(0, 7, 0), NONE);
        due("ship(0, 0, -1)", x.ship(0, 0, -1), NONE);
        due("ship(0, 0, 1)", x.ship(0, 0, 1), NONE);
        for (int far : FAR) {
            due("ship(" + far + ", 0, 0)", x.ship(far, 0, 0), NONE);
            due("ship(0, " + far + ", 0)", x.ship(0, far, 0), NONE);
            due("ship(0, 0, " + far + ")", x.ship(0, 0, far), NONE);
        }
        due("count(10)", x.count(10), 0);
        due("ship(0, 0, 0)", x.ship(0, 0, 0), 0);
        due("ship(999999, 95, 0)", x.ship(999999, 95, 0), 1);
        x.go(3);
        due("ship(5, 0, 4)", x.ship(5, 0, 4), NONE);
        due("ship(5, 0, 3)", x.ship(5, 0, 3), 2);
        for (int i = 3; i < 8; i++) {
            due("ship(5, 0, 0)", x.ship(5, 0, 0), i);
        }
        due("ship(5, 0, 0): 8 came", x.ship(5, 0, 0), NONE);
        due("count(10)", x.count(10), 8);
    }

    private static void promise16Could() {
        OilWatch x = begin("promise 16");
        due("could(0, 50) of none", x.could(0, 50), false);
        x.shore(53, 1);
        x.boom(50, 51, 9);
        x.weather(0, 0, EAST, 0);
        x.weather(0, 2, SOUTH, 0);
        x.weather(0, 3, EAST, 0);
        x.weather(0, 4, EAST, 0);
        x.weather(1, 1, WEST, 0);
        due("ship(1, 50, 0)", x.ship(1, 50, 0), 0);
        due("could(0, 50) now", x.could(0, 50), true);
        due("could(0, 51) before it drifts", x.could(0, 51), false);
        x.go(1);
        due("could(0, 50): it stays", x.could(0, 50), true);
        due("could(0, 51): booms don't matter", x.could(0, 51), true);
        due("could(0, 52): one cell an hour", x.could(0, 52), false);
        x.go(1);
        due("could(0, 49): another world's weather", x.could(0, 49), false);
        due("could(0, 52): no weather", x.could(0, 52), false);
        x.go(3);
        due("ship(1, 50, 0) told later", x.ship(1, 50, 0), 1);
        due("ship(1, 50, 3)", x.ship(1, 50, 3), 2);
        due("ship(1, 50, 5)", x.ship(1, 50, 5), 3);
        for (int cell = 0; cell < 96; cell++) {
            boolean upper = cell >= 50 && cell <= 52;
            boolean lower = cell >= 62 && cell <= 65;
            due("could(0, " + cell + ")", x.could(0, cell), upper || lower);
            due("could(1, " + cell + ")", x.could(1, cell), upper || lower);
            due("could(2, " + cell + ")", x.could(2, cell), upper);
            due("could(3, " + cell + ")", x.could(3, cell), cell == 50);
        }
        due("could(4, 50)", x.could(4, 50), false);
        due("could(-1, 50)", x.could(-1, 50), false);
        due("could(0, -1)", x.could(0, -1), false);
        due("could(0, 96)", x.could(0, 96), false);
        for (int far : FAR) {
            due("could(" + far + ", 50)", x.could(far, 50), false);
            due("could(0, " + far + ")", x.could(0, far), false);
        }
        x = begin("promise 16, edges of the net");
        x.ship(1, 11, 0);
        x.weather(0, 0, EAST, 0);
        x.weather(0, 1, NORTH, 0);
        x.go(2);
        due("could(0, 11)", x.could(0, 11), true);
        due("could(0, 12)", x.could(0, 12), false);
        due("count(10)", x.count(10), 1);
    }

    private static void promise17Sample() {
        OilWatch x = begin("promise 17");
        x.shore(7, 1);
        due("sample(50, 0): no ship", x.sample(50, 0), NONE);
        x.ship(100000, 50, 0);
        due("sample(50, 0): one alone is never in doubt", x.sample(50, 0), 0);
        due("sample(50, 999999)", x.sample(50, 999999), 0);
        due("sample(51, 100000): it couldn't", x.sample(51, 100000), NONE);
        x.ship(100012, 50, 0);
        due("sample(50, 100000): 5 more is no doubt", x.sample(50, 100000), 0);
        due("sample(50, 100012)", x.sample(50, 100012), 1);
        due("sample(50, 100001): 1 and 2", x.sample(50, 100001), DOUBT);
        due("sample(50, 100011): 2 and 1", x.sample(50, 100011), DOUBT);
        x.ship(100000, 51, 0);
        due("sample(50, 100000): the like one is elsewhere", x.sample(50, 100000), 0);
        due("sample(51, 100000)", x.sample(51, 100000), 2);
        x.ship(100000, 50, 0);
        due("sample(50, 100000): like ones", x.sample(50, 100000), DOUBT);
        due("sample(50, 100012)", x.sample(50, 100012), 1);
        due("sample(7, 100000): shore", x.sample(7, 100000), NONE);
        due("sample(-1, 0)", x.sample(-1, 0), NONE);
        due("sample(96, 0)", x.sample(96, 0), NONE);
        due("sample(50, -1)", x.sample(50, -1), NONE);
        due("sample(50, 1000000)", x.sample(50, 1000000), NONE);
        for (int far : FAR) {
            due("sample(" + far + ", 0)", x.sample(far, 0), NONE);
            due("sample(50, " + far + ")", x.sample(50, far), NONE);
        }
        x = begin("promise 17, every digit counts");
        x.ship(0, 50, 0);
        x.ship(999999, 50, 0);
        for (int place = 1; place <= 100000; place *= 10) {
            due("sample(50, " + 9 * place + ")", x.sample(50, 9 * place), 0);
            due("sample(50, " + (999999 - 9 * place) + ")", x.sample(50, 999999 - 9 * place), 1);
        }
        due("sample(50, 444555): 123 either way", x.sample(50, 444555), DOUBT);
    }

    private static void promise18Part() {
        OilWatch x = begin("promise 18");
        x.skimmer(0, 1, 0, 1);
        x.go(1);
        due("part(0, 0)", x.part(0, 0), true);
        due("part(3, 100)", x.part(3, 100), true);
        due("part(-1, 1)", x.part(-1, 1), false);
        due("part(4, 1)", x.part(4, 1), false);
        due("part(0, -1)", x.part(0, -1), false);
        due("part(0, 101)", x.part(0, 101), false);
        for (int far : FAR) {
            due("part(" + far + ", 1)", x.part(far, 1), false);
            due("part(0, " + far + ")", x.part(0, far), false);
        }
        due("bill(3)", x.bill(3), 50);
        due("bill(0)", x.bill(0), 0);
        due("part(0, 100)", x.part(0, 100), true);
        due("bill(0)", x.bill(0), 25);
        due("part(3, 0): in place of what was", x.part(3, 0), true);
        due("bill(0)", x.bill(0), 50);
        due("bill(3)", x.bill(3), 0);
    }

    private static void promise19Bill() {
        OilWatch x = begin("promise 19");
        x.skimmer(0, 1, 0, 1);
        x.go(1);
        for (int party = 0; party < 4; party++) {
            due("bill(" + party + "): all parts are 0", x.bill(party), 0);
        }
        due("bill(-1)", x.bill(-1), NONE);
        due("bill(4)", x.bill(4), NONE);
        for (int far : FAR) {
            due("bill(" + far + ")", x.bill(far), NONE);
        }
        dueShares(x, new int[] {1, 1, 1, 0}, new int[] {17, 17, 16, 0});
        dueShares(x, new int[] {0, 1, 1, 1}, new int[] {0, 17, 17, 16});
        dueShares(x, new int[] {1, 1, 1, 1}, new int[] {13, 13, 12, 12});
        dueShares(x, new int[] {0, 0, 0, 7}, new int[] {0, 0, 0, 50});
        // 4.54, 9.09, 13.63, 22.72: 48 and two left, for the last and the third
        dueShares(x, new int[] {1, 2, 3, 5}, new int[] {4, 9, 14, 23});
        // 1.13, 1.13, 1.13, 46.59: 49 and one left, for the last
        dueShares(x, new int[] {2, 2, 2, 82}, new int[] {1, 1, 1, 47});
        // 16.66, 16.66, 16.66, 0: two left
        dueShares(x, new int[] {100, 100, 100, 0}, new int[] {17, 17, 16, 0});
        x = begin("promise 19, the whole");
        x.shore(51, 9);
        x.spill(50, 100000);
        x.skimmer(50, 5000, 100000, 1);
        x.weather(0, 0, EAST, 0);
        x.go(1);
        x.part(2, 1);
        due("bill(2): 2 each liter, 50, 10 each harm", x.bill(2), 2 * 5000 + 50 + 10 * 450);
        due("count(8)", x.count(8), 14550);
        x.empty(0);
        due("bill(2): in the depot is skimmed too", x.bill(2), 14550);
    }

    private static void dueShares(OilWatch x, int[] parts, int[] shares) {
        for (int party = 0; party < 4; party++) {
            due("part(" + party + ", " + parts[party] + ")", x.part(party, parts[party]), true);
        }
        for (int party = 0; party < 4; party++) {
            due("bill(" + party + ") of " + java.util.Arrays.toString(parts), x.bill(party), shares[party]);
        }
    }

    private static void promise20Told() {
        OilWatch x = begin("promise 20");
        due("told(0, 0) of none", x.told(0, 0), NONE);
        x.spill(50, 1000);
        x.skimmer(50, 100, 150, 1);
        x.skimmer(60, 100, 150, 1);
        x.go(1);
        x.empty(0);
        x.go(1);
        x.sail(0, 51);
        due("told(0, 0)", x.told(0, 0), 51);
        due("told(0, 1)", x.told(0, 1), 100);
        due("told(0, 2)", x.told(0, 2), 200);
        due("told(0, 3)", x.told(0, 3), 1);
        due("told(1, 0)", x.told(1, 0), 60);
        due("told(1, 1)", x.told(1, 1), 0);
        due("told(1, 2)", x.told(1, 2), 0);
        due("told(1, 3)", x.told(1, 3), 0);
        due("told(0, 4)", x.told(0, 4), NONE);
        due("told(0, -1)", x.told(0, -1), NONE);
        due("told(2, 0)", x.told(2, 0), NONE);
        due("told(-1, 0)", x.told(-1, 0), NONE);
        for (int far : FAR) {
            due("told(" + far + ", 0)", x.told(far, 0), NONE);
            due("told(0, " + far + ")", x.told(0, far), NONE);
        }
        x.go(1);
        due("told(0, 3) in the next hour", x.told(0, 3), 0);
    }

    private static void promise21Count() {
        OilWatch x = begin("promise 21");
        x.shore(51, 9);
        x.shore(38, 2);
        x.spill(50, 10000);
        x.spill(47, 1000);
        x.skimmer(50, 300, 350, 1);
        x.boom(0, 1, 1);
        x.ship(1, 1, 0);
        x.ship(1, 1, 0);
        x.weather(0, 0, EAST, 0);
        x.weather(0, 1, NORTH, 0);
        x.go(1);
        // 50: 5000 ashore, 150 lost, 300 skimmed, 4550 left; 47: 500 away, 15 lost, 485 left
        long[] want = {1, 11000, 4550 + 485, 165, 5000, 500, 300, 45, 600 + 50 + 450, 1, 2};
        for (int what = 0; what <= 10; what++) {
            due("count(" + what + ")", x.count(what), want[what]);
        }
        x.empty(0);
        x.go(1);
        // 50: 2275 ashore, 68 lost, 300 skimmed, 1907 left; 47: 242 to 35, 7 lost each side
        long[] then = {2, 11000, 1907 + 236 + 235, 165 + 68 + 14, 7275, 500, 600, 49, 1200 + 100 + 490, 1, 2};
        for (int what = 0; what <= 10; what++) {
            due("count(" + what + ") at 2", x.count(what), then[what]);
        }
        due("count(-1)", x.count(-1), NONE);
        due("count(11)", x.count(11), NONE);
        for (int far : FAR) {
            due("count(" + far + ")", x.count(far), NONE);
        }
    }
}
