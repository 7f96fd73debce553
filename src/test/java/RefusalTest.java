import java.util.function.Function;
import java.util.function.Supplier;

/**
 * Every refusal that the document names has a test of its own: the call is answered by false or NONE, changes nothing
 * that can be seen, and its nearest neighbour that can be is taken.
 */
public final class RefusalTest {
    private static final Checks CHECKS = new Checks("RefusalTest");
    private static final int[] NO_CELLS = {-1, 96, -12, 108, Integer.MIN_VALUE, Integer.MAX_VALUE};
    private static final Supplier<OilWatch> START = Scenes::start;
    private static final Supplier<OilWatch> UNDER_WAY = Scenes::underWay;
    private static final Supplier<OilWatch> LAST_HOUR = Scenes::lastHour;
    private static final Supplier<OilWatch> FULL = Scenes::full;

    public static void main(String[] args) throws ReflectiveOperationException {
        CHECKS.runEachTestOf(RefusalTest.class);
        CHECKS.finish();
    }

    private static void refused(String call, Supplier<OilWatch> scene, Function<OilWatch, Object> attempt) {
        OilWatch tried = scene.get();
        Object answer = attempt.apply(tried);
        CHECKS.due(call + " is refused (" + answer + ")", answer.equals(false) || answer.equals(-1), true);
        boolean same = Scenes.allThatCanBeSeen(tried).equals(Scenes.allThatCanBeSeen(scene.get()));
        CHECKS.due(call + " changes nothing", same, true);
    }

    private static void taken(String call, Supplier<OilWatch> scene, Function<OilWatch, Object> attempt, Object want) {
        Object answer = attempt.apply(scene.get());
        CHECKS.due(call + " answers " + want + " (" + answer + ")", answer.equals(want), true);
    }

    // ---- promise 2: shore

    static void p02NoSuchCell() {
        for (int cell : NO_CELLS) {
            refused("shore(" + cell + ", 1)", START, x -> x.shore(cell, 1));
            refused("shore(" + cell + ", 0)", START, x -> x.shore(cell, 0));
        }
        taken("shore(0, 1)", START, x -> x.shore(0, 1), true);
        taken("shore(95, 1)", START, x -> x.shore(95, 1), true);
    }

    static void p02RankCantBe() {
        int[] ranks = {-1, 10, Integer.MIN_VALUE, Integer.MAX_VALUE};
        for (int rank : ranks) {
            refused("shore(80, " + rank + ")", START, x -> x.shore(80, rank));
            refused("shore(15, " + rank + ") of a shore", START, x -> x.shore(15, rank));
        }
        taken("shore(80, 1)", START, x -> x.shore(80, 1), true);
        taken("shore(80, 9)", START, x -> x.shore(80, 9), true);
        taken("shore(15, 9) of a shore", START, x -> x.shore(15, 9), true);
        taken("shore(15, 0): sea again", START, x -> x.shore(15, 0), true);
        taken("shore(80, 0): sea already", START, x -> x.shore(80, 0), true);
    }

    static void p02NowIsNot0() {
        refused("shore(80, 1) at 3", UNDER_WAY, x -> x.shore(80, 1));
        refused("shore(40, 0) at 3", UNDER_WAY, x -> x.shore(40, 0));
        refused("shore(80, 1) at 500", LAST_HOUR, x -> x.shore(80, 1));
        Supplier<OilWatch> atOne = () -> after(START, x -> x.go(1));
        refused("shore(80, 1) at 1", atOne, x -> x.shore(80, 1));
        Supplier<OilWatch> stillAt0 = () -> after(START, x -> x.go(0));
        taken("shore(80, 1) after go(0)", stillAt0, x -> x.shore(80, 1), true);
    }

    private static OilWatch after(Supplier<OilWatch> scene, Function<OilWatch, Object> call) {
        OilWatch x = scene.get();
        call.apply(x);
        return x;
    }

    static void p02OilIsThere() {
        refused("shore(14, 1)", START, x -> x.shore(14, 1));
        refused("shore(14, 0)", START, x -> x.shore(14, 0));
        Supplier<OilWatch> aLiter = () -> after(OilWatch::new, x -> x.spill(20, 1));
        refused("shore(20, 1) with one liter there", aLiter, x -> x.shore(20, 1));
        taken("shore(21, 1) beside it", aLiter, x -> x.shore(21, 1), true);
    }

    static void p02ASkimmerIsThere() {
        refused("shore(63, 1) where skimmer 1 went", START, x -> x.shore(63, 1));
        refused("shore(63, 0) where skimmer 1 went", START, x -> x.shore(63, 0));
        Supplier<OilWatch> skimmer = () -> after(OilWatch::new, x -> x.skimmer(20, 1, 0, 1));
        refused("shore(20, 1)", skimmer, x -> x.shore(20, 1));
        taken("shore(21, 1) beside it", skimmer, x -> x.shore(21, 1), true);
        Supplier<OilWatch> gone = () -> after(skimmer, x -> x.sail(0, 21));
        taken("shore(20, 1) when it went", gone, x -> x.shore(20, 1), true);
        for (int number = 0; number < 4; number++) {
            int cell = 41 + number;
            refused("shore(" + cell + ", 1) at skimmer " + number, FULL, x -> x.shore(cell, 1));
        }
    }

    static void p02ABoomsEndIsThere() {
        int[] ends = {51, 62, 74};
        for (int cell : ends) {
            refused("shore(" + cell + ", 1)", START, x -> x.shore(cell, 1));
            refused("shore(" + cell + ", 0)", START, x -> x.shore(cell, 0));
        }
        taken("shore(52, 1) at a lifted one's end", START, x -> x.shore(52, 1), true);
        taken("shore(86, 1) beside one's end", START, x -> x.shore(86, 1), true);
        refused("shore(94, 1) at the 20th's end", FULL, x -> x.shore(94, 1));
        taken("shore(95, 1) beside the 20th's end", FULL, x -> x.shore(95, 1), true);
        Supplier<OilWatch> first = () -> after(OilWatch::new, x -> x.boom(0, 1, 0));
        refused("shore(0, 1)", first, x -> x.shore(0, 1));
        refused("shore(1, 1)", first, x -> x.shore(1, 1));
        Supplier<OilWatch> second = () -> after(first, x -> x.boom(1, 2, 0));
        Supplier<OilWatch> oneOfTwo = () -> after(second, x -> x.lift(0));
        refused("shore(1, 1) at the other one's end", oneOfTwo, x -> x.shore(1, 1));
        taken("shore(0, 1)", oneOfTwo, x -> x.shore(0, 1), true);
    }

    static void p02AShipIsThere() {
        Supplier<OilWatch> ship = () -> after(OilWatch::new, x -> x.ship(0, 20, 0));
        refused("shore(20, 1)", ship, x -> x.shore(20, 1));
        refused("shore(20, 0)", ship, x -> x.shore(20, 0));
        taken("shore(21, 1) beside it", ship, x -> x.shore(21, 1), true);
        for (int number = 0; number < 8; number++) {
            int cell = 50 + number;
            refused("shore(" + cell + ", 1) at ship " + number, FULL, x -> x.shore(cell, 1));
        }
    }

    // ---- promise 3: weather

    static void p03NoSuchWorld() {
        int[] worlds = {-1, 3, Integer.MIN_VALUE, Integer.MAX_VALUE};
        for (int world : worlds) {
            refused("weather(" + world + ", 0, 2, 9)", START, x -> x.weather(world, 0, 2, 9));
        }
        taken("weather(0, 0, 2, 9)", START, x -> x.weather(0, 0, 2, 9), true);
        taken("weather(2, 0, 2, 9)", START, x -> x.weather(2, 0, 2, 9), true);
    }

    static void p03NoSuchHour() {
        int[] hours = {-1, 501, Integer.MIN_VALUE, Integer.MAX_VALUE};
        for (int hour : hours) {
            for (int world = 0; world < 3; world++) {
                int here = world;
                refused("weather(" + here + ", " + hour + ", 1, 9)", START, x -> x.weather(here, hour, 1, 9));
            }
        }
        taken("weather(0, 0, 1, 9)", START, x -> x.weather(0, 0, 1, 9), true);
        taken("weather(0, 500, 1, 9)", START, x -> x.weather(0, 500, 1, 9), true);
    }

    static void p03HourBeforeNow() {
        for (int world = 0; world < 3; world++) {
            int here = world;
            refused("weather(" + here + ", 2, 1, 9) at 3", UNDER_WAY, x -> x.weather(here, 2, 1, 9));
            refused("weather(" + here + ", 0, 1, 9) at 3", UNDER_WAY, x -> x.weather(here, 0, 1, 9));
            taken("weather(" + here + ", 3, 1, 9) at 3", UNDER_WAY, x -> x.weather(here, 3, 1, 9), true);
            refused("weather(" + here + ", 499, 1, 9) at 500", LAST_HOUR, x -> x.weather(here, 499, 1, 9));
            refused("weather(" + here + ", 501, 1, 9) at 500", LAST_HOUR, x -> x.weather(here, 501, 1, 9));
            taken("weather(" + here + ", 500, 1, 9) at 500", LAST_HOUR, x -> x.weather(here, 500, 1, 9), true);
        }
    }

    static void p03NoSuchWay() {
        int[] ways = {-1, 5, Integer.MIN_VALUE, Integer.MAX_VALUE};
        for (int way : ways) {
            refused("weather(0, 0, " + way + ", 9)", START, x -> x.weather(0, 0, way, 9));
        }
        taken("weather(0, 0, 0, 9)", START, x -> x.weather(0, 0, 0, 9), true);
        taken("weather(0, 0, 4, 9)", START, x -> x.weather(0, 0, 4, 9), true);
    }

    static void p03NoSuchForce() {
        int[] forces = {-1, 10, Integer.MIN_VALUE, Integer.MAX_VALUE};
        for (int force : forces) {
            refused("weather(0, 0, 4, " + force + ")", START, x -> x.weather(0, 0, 4, force));
        }
        taken("weather(0, 0, 4, 0)", START, x -> x.weather(0, 0, 4, 0), true);
        taken("weather(0, 0, 4, 9)", START, x -> x.weather(0, 0, 4, 9), true);
    }

    // ---- promise 4: boom

    static void p04NoSuchCell() {
        for (int cell : NO_CELLS) {
            refused("boom(" + cell + ", 0, 1)", START, x -> x.boom(cell, 0, 1));
            refused("boom(0, " + cell + ", 1)", START, x -> x.boom(0, cell, 1));
            refused("boom(" + cell + ", 95, 1)", START, x -> x.boom(cell, 95, 1));
            refused("boom(95, " + cell + ", 1)", START, x -> x.boom(95, cell, 1));
            refused("boom(" + cell + ", " + (cell + 1) + ", 1)", START, x -> x.boom(cell, cell + 1, 1));
        }
        taken("boom(0, 1, 1)", START, x -> x.boom(0, 1, 1), 1);
        taken("boom(94, 95, 1)", START, x -> x.boom(94, 95, 1), 1);
    }

    static void p04AShoreIsNoEnd() {
        refused("boom(15, 16, 1)", START, x -> x.boom(15, 16, 1));
        refused("boom(16, 15, 1)", START, x -> x.boom(16, 15, 1));
        refused("boom(15, 27, 1): both are", START, x -> x.boom(15, 27, 1));
        taken("boom(16, 17, 1)", START, x -> x.boom(16, 17, 1), 1);
    }

    static void p04NotSideBySide() {
        refused("boom(20, 20, 1): the same", START, x -> x.boom(20, 20, 1));
        refused("boom(20, 22, 1): two columns", START, x -> x.boom(20, 22, 1));
        refused("boom(20, 44, 1): two rows", START, x -> x.boom(20, 44, 1));
        refused("boom(20, 33, 1): aslant", START, x -> x.boom(20, 33, 1));
        refused("boom(20, 31, 1): aslant", START, x -> x.boom(20, 31, 1));
        refused("boom(0, 95, 1): the corners", START, x -> x.boom(0, 95, 1));
    }

    static void p04ARowsEndIsNotBesideTheNextRow() {
        for (int end = 11; end < 95; end += 12) {
            int cell = end;
            refused("boom(" + cell + ", " + (cell + 1) + ", 1)", START, x -> x.boom(cell, cell + 1, 1));
            refused("boom(" + (cell + 1) + ", " + cell + ", 1)", START, x -> x.boom(cell + 1, cell, 1));
        }
        for (int begin = 0; begin < 96; begin += 12) {
            int cell = begin;
            refused("boom(" + cell + ", " + (cell + 11) + ", 1)", START, x -> x.boom(cell, cell + 11, 1));
        }
    }

    static void p04ThereIsOne() {
        refused("boom(50, 51, 9)", START, x -> x.boom(50, 51, 9));
        refused("boom(51, 50, 9)", START, x -> x.boom(51, 50, 9));
        refused("boom(62, 74, 9)", START, x -> x.boom(62, 74, 9));
        refused("boom(74, 62, 9)", START, x -> x.boom(74, 62, 9));
        taken("boom(51, 52, 9) where it was lifted", START, x -> x.boom(51, 52, 9), 1);
    }

    static void p04LimitCantBe() {
        int[] limits = {-1, 10, Integer.MIN_VALUE, Integer.MAX_VALUE};
        for (int limit : limits) {
            refused("boom(20, 21, " + limit + ")", START, x -> x.boom(20, 21, limit));
        }
        taken("boom(20, 21, 0)", START, x -> x.boom(20, 21, 0), 1);
        taken("boom(20, 21, 9)", START, x -> x.boom(20, 21, 9), 1);
    }

    static void p04TwentyAreThere() {
        refused("boom(20, 21, 1)", FULL, x -> x.boom(20, 21, 1));
        Supplier<OilWatch> oneLess = () -> after(FULL, x -> x.lift(19));
        taken("boom(20, 21, 1) when 19 are there", oneLess, x -> x.boom(20, 21, 1), 19);
        Supplier<OilWatch> fullAgain = () -> after(oneLess, x -> x.boom(20, 21, 1));
        refused("boom(22, 23, 1)", fullAgain, x -> x.boom(22, 23, 1));
    }

    // ---- promise 5: lift

    static void p05NoSuchBoom() {
        int[] booms = {-1, 3, 19, 20, Integer.MIN_VALUE, Integer.MAX_VALUE};
        for (int boom : booms) {
            refused("lift(" + boom + ")", START, x -> x.lift(boom));
        }
        refused("lift(1): lifted already", START, x -> x.lift(1));
        refused("lift(0) of a new object", OilWatch::new, x -> x.lift(0));
        refused("lift(20) of twenty", FULL, x -> x.lift(20));
        taken("lift(0)", START, x -> x.lift(0), true);
        taken("lift(2)", START, x -> x.lift(2), true);
        taken("lift(19) of twenty", FULL, x -> x.lift(19), true);
    }

    // ---- promise 6: spill

    static void p06NoSeaCell() {
        for (int cell : NO_CELLS) {
            refused("spill(" + cell + ", 5)", START, x -> x.spill(cell, 5));
        }
        refused("spill(15, 5) on a shore", START, x -> x.spill(15, 5));
        taken("spill(0, 5)", START, x -> x.spill(0, 5), 5);
        taken("spill(95, 5)", START, x -> x.spill(95, 5), 5);
    }

    static void p06LitersAreNot1To100000() {
        int[] liters = {0, -1, 100001, Integer.MIN_VALUE, Integer.MAX_VALUE};
        for (int some : liters) {
            refused("spill(14, " + some + ")", START, x -> x.spill(14, some));
        }
        taken("spill(14, 1)", START, x -> x.spill(14, 1), 2001);
        taken("spill(14, 100000)", START, x -> x.spill(14, 100000), 102000);
    }

    static void p06MoreThanAMillion() {
        refused("spill(41, 1)", FULL, x -> x.spill(41, 1));
        refused("spill(41, 100000)", FULL, x -> x.spill(41, 100000));
        Supplier<OilWatch> later = () -> after(FULL, x -> x.go(48));
        refused("spill(41, 1): what is lost or skimmed was spilled too", later, x -> x.spill(41, 1));
        Supplier<OilWatch> allButOne = RefusalTest::allButOneLiter;
        refused("spill(7, 2)", allButOne, x -> x.spill(7, 2));
        refused("spill(7, 100000)", allButOne, x -> x.spill(7, 100000));
        taken("spill(7, 1): just a million", allButOne, x -> x.spill(7, 1), 1);
    }

    private static OilWatch allButOneLiter() {
        OilWatch x = new OilWatch();
        for (int i = 0; i < 9; i++) {
            x.spill(50, 100000);
        }
        x.spill(50, 99999);
        return x;
    }

    // ---- promise 7: skimmer

    static void p07NoSeaCell() {
        for (int cell : NO_CELLS) {
            refused("skimmer(" + cell + ", 1, 1, 1)", START, x -> x.skimmer(cell, 1, 1, 1));
        }
        refused("skimmer(15, 1, 1, 1) on a shore", START, x -> x.skimmer(15, 1, 1, 1));
        taken("skimmer(0, 1, 1, 1)", START, x -> x.skimmer(0, 1, 1, 1), 2);
        taken("skimmer(95, 1, 1, 1)", START, x -> x.skimmer(95, 1, 1, 1), 2);
        taken("skimmer(50, 1, 1, 1) where one is", START, x -> x.skimmer(50, 1, 1, 1), 2);
    }

    static void p07RateCantBe() {
        int[] rates = {0, -1, 5001, Integer.MIN_VALUE, Integer.MAX_VALUE};
        for (int rate : rates) {
            refused("skimmer(50, " + rate + ", 1, 1)", START, x -> x.skimmer(50, rate, 1, 1));
        }
        taken("skimmer(50, 1, 1, 1)", START, x -> x.skimmer(50, 1, 1, 1), 2);
        taken("skimmer(50, 5000, 1, 1)", START, x -> x.skimmer(50, 5000, 1, 1), 2);
    }

    static void p07RoomCantBe() {
        int[] rooms = {-1, 100001, Integer.MIN_VALUE, Integer.MAX_VALUE};
        for (int room : rooms) {
            refused("skimmer(50, 1, " + room + ", 1)", START, x -> x.skimmer(50, 1, room, 1));
        }
        taken("skimmer(50, 1, 0, 1)", START, x -> x.skimmer(50, 1, 0, 1), 2);
        taken("skimmer(50, 1, 100000, 1)", START, x -> x.skimmer(50, 1, 100000, 1), 2);
    }

    static void p07SpeedCantBe() {
        int[] speeds = {0, -1, 4, Integer.MIN_VALUE, Integer.MAX_VALUE};
        for (int speed : speeds) {
            refused("skimmer(50, 1, 1, " + speed + ")", START, x -> x.skimmer(50, 1, 1, speed));
        }
        taken("skimmer(50, 1, 1, 1)", START, x -> x.skimmer(50, 1, 1, 1), 2);
        taken("skimmer(50, 1, 1, 3)", START, x -> x.skimmer(50, 1, 1, 3), 2);
    }

    static void p07FourCame() {
        refused("skimmer(50, 1, 1, 1)", FULL, x -> x.skimmer(50, 1, 1, 1));
        Supplier<OilWatch> three = () -> after(START, x -> x.skimmer(50, 1, 1, 1));
        taken("skimmer(50, 1, 1, 1) when three came", three, x -> x.skimmer(50, 1, 1, 1), 3);
    }

    // ---- promise 8: sail

    static void p08NoSuchSkimmer() {
        int[] skimmers = {-1, 2, 4, Integer.MIN_VALUE, Integer.MAX_VALUE};
        for (int skimmer : skimmers) {
            refused("sail(" + skimmer + ", 50)", START, x -> x.sail(skimmer, 50));
        }
        refused("sail(4, 45) of four", FULL, x -> x.sail(4, 45));
        taken("sail(0, 51)", START, x -> x.sail(0, 51), true);
        taken("sail(3, 45) of four", FULL, x -> x.sail(3, 45), true);
    }

    static void p08NoSuchCell() {
        for (int cell : NO_CELLS) {
            refused("sail(0, " + cell + ")", START, x -> x.sail(0, cell));
        }
        Supplier<OilWatch> corner = () -> after(OilWatch::new, x -> x.skimmer(0, 1, 1, 3));
        Supplier<OilWatch> otherCorner = () -> after(OilWatch::new, x -> x.skimmer(95, 1, 1, 3));
        for (int cell : NO_CELLS) {
            refused("sail(0, " + cell + ") from 0", corner, x -> x.sail(0, cell));
            refused("sail(0, " + cell + ") from 95", otherCorner, x -> x.sail(0, cell));
        }
    }

    static void p08ItWentInThisHour() {
        refused("sail(1, 62): back", START, x -> x.sail(1, 62));
        refused("sail(1, 64): on", START, x -> x.sail(1, 64));
        refused("sail(1, 63): where it is", START, x -> x.sail(1, 63));
        Supplier<OilWatch> stillThisHour = () -> after(START, x -> x.go(0));
        refused("sail(1, 62) after go(0)", stillThisHour, x -> x.sail(1, 62));
        Supplier<OilWatch> nextHour = () -> after(START, x -> x.go(1));
        taken("sail(1, 62) in the next hour", nextHour, x -> x.sail(1, 62), true);
    }

    static void p08ItCantToAShore() {
        Supplier<OilWatch> beside = () -> after(START, x -> x.skimmer(14, 1, 1, 3));
        refused("sail(2, 15): beside it", beside, x -> x.sail(2, 15));
        refused("sail(2, 27)", beside, x -> x.sail(2, 27));
        taken("sail(2, 26)", beside, x -> x.sail(2, 26), true);
    }

    static void p08ItCantOverAShore() {
        Supplier<OilWatch> beside = () -> after(START, x -> x.skimmer(14, 1, 1, 3));
        refused("sail(2, 16): two columns, but a shore between", beside, x -> x.sail(2, 16));
        refused("sail(2, 17): three columns, but a shore between", beside, x -> x.sail(2, 17));
        refused("sail(2, 28): both shores between", beside, x -> x.sail(2, 28));
        taken("sail(2, 4): around the shore by north", beside, x -> x.sail(2, 4), true);
    }

    static void p08ItCantFartherThanItsSpeed() {
        for (int number = 1; number <= 3; number++) {
            int speed = number;
            Supplier<OilWatch> alone = () -> after(OilWatch::new, x -> x.skimmer(52, 1, 1, speed));
            for (int target = 0; target < 96; target++) {
                int cell = target;
                int away = Math.abs(cell / 12 - 52 / 12) + Math.abs(cell % 12 - 52 % 12);
                String call = "sail(0, " + cell + ") at speed " + speed;
                if (away == speed + 1) {
                    refused(call, alone, x -> x.sail(0, cell));
                } else {
                    taken(call, alone, x -> x.sail(0, cell), away <= speed);
                }
            }
        }
    }

    static void p08ARowsEndIsNotBesideTheNextRow() {
        Supplier<OilWatch> end = () -> after(OilWatch::new, x -> x.skimmer(23, 1, 1, 3));
        refused("sail(0, 24)", end, x -> x.sail(0, 24));
        refused("sail(0, 25)", end, x -> x.sail(0, 25));
        refused("sail(0, 36)", end, x -> x.sail(0, 36));
        taken("sail(0, 35)", end, x -> x.sail(0, 35), true);
        Supplier<OilWatch> begin = () -> after(OilWatch::new, x -> x.skimmer(24, 1, 1, 3));
        refused("sail(0, 23)", begin, x -> x.sail(0, 23));
        refused("sail(0, 11)", begin, x -> x.sail(0, 11));
    }

    // ---- promise 9: empty

    static void p09NoSuchSkimmer() {
        int[] skimmers = {-1, 2, 4, Integer.MIN_VALUE, Integer.MAX_VALUE};
        for (int skimmer : skimmers) {
            refused("empty(" + skimmer + ")", UNDER_WAY, x -> x.empty(skimmer));
        }
        refused("empty(4) of four", FULL, x -> x.empty(4));
        taken("empty(0): nothing in it", UNDER_WAY, x -> x.empty(0), 0);
        taken("empty(3) of four", FULL, x -> x.empty(3), 0);
    }

    // ---- promise 10: go

    static void p10AnotherN() {
        int[] hours = {-1, 49, Integer.MIN_VALUE, Integer.MAX_VALUE};
        for (int n : hours) {
            refused("go(" + n + ")", START, x -> x.go(n));
            refused("go(" + n + ") at 500", LAST_HOUR, x -> x.go(n));
        }
        taken("go(0)", UNDER_WAY, x -> x.go(0), 3);
        taken("go(48)", UNDER_WAY, x -> x.go(48), 51);
        taken("go(48) at 500", LAST_HOUR, x -> x.go(48), 500);
    }

    // ---- promise 11: oil

    static void p11NoSuchCell() {
        for (int cell : NO_CELLS) {
            refused("oil(" + cell + ")", START, x -> x.oil(cell));
        }
        Supplier<OilWatch> first = () -> after(START, x -> x.spill(0, 3));
        Supplier<OilWatch> last = () -> after(START, x -> x.spill(95, 4));
        taken("oil(0)", first, x -> x.oil(0), 3);
        taken("oil(95)", last, x -> x.oil(95), 4);
        taken("oil(15) of a shore", START, x -> x.oil(15), 0);
    }

    // ---- promises 12 and 13: foretold, worst

    static void p12NoSuchWorld() {
        int[] worlds = {-1, 3, Integer.MIN_VALUE, Integer.MAX_VALUE};
        for (int world : worlds) {
            refused("foretold(" + world + ", 1)", START, x -> x.foretold(world, 1));
            refused("foretold(" + world + ", 0)", START, x -> x.foretold(world, 0));
        }
        taken("foretold(0, 1)", START, x -> x.foretold(0, 1), 4);
        taken("foretold(2, 1)", START, x -> x.foretold(2, 1), 0);
    }

    static void p12NCantBe() {
        int[] hours = {-1, 49, Integer.MIN_VALUE, Integer.MAX_VALUE};
        for (int n : hours) {
            refused("foretold(0, " + n + ")", START, x -> x.foretold(0, n));
        }
        taken("foretold(0, 0)", START, x -> x.foretold(0, 0), 0);
        taken("foretold(1, 48)", START, x -> x.foretold(1, 48), 0);
    }

    static void p13NCantBe() {
        int[] hours = {-1, 49, Integer.MIN_VALUE, Integer.MAX_VALUE};
        for (int n : hours) {
            refused("worst(" + n + ")", START, x -> x.worst(n));
        }
        taken("worst(0)", START, x -> x.worst(0), 0);
        taken("worst(1)", START, x -> x.worst(1), 4);
    }

    // ---- promise 14: best

    static void p14NoSuchSkimmer() {
        int[] skimmers = {-1, 2, 4, Integer.MIN_VALUE, Integer.MAX_VALUE};
        for (int skimmer : skimmers) {
            refused("best(" + skimmer + ", 1, 0)", START, x -> x.best(skimmer, 1, 0));
            refused("best(" + skimmer + ", 1, 1)", START, x -> x.best(skimmer, 1, 1));
        }
        refused("best(4, 1, 0) of four", FULL, x -> x.best(4, 1, 0));
        taken("best(0, 1, 0)", START, x -> x.best(0, 1, 0), 100);
        taken("best(3, 1, 0) of four", FULL, x -> x.best(3, 1, 0), 5000);
    }

    static void p14ItWentInThisHour() {
        refused("best(1, 1, 0)", START, x -> x.best(1, 1, 0));
        refused("best(1, 1, 1)", START, x -> x.best(1, 1, 1));
        refused("best(1, 3, 0)", UNDER_WAY, x -> x.best(1, 3, 0));
        Supplier<OilWatch> nextHour = () -> after(START, x -> x.go(1));
        taken("best(1, 1, 0) in the next hour", nextHour, x -> x.best(1, 1, 0), 500);
    }

    static void p14NCantBe() {
        int[] hours = {0, -1, 4, Integer.MIN_VALUE, Integer.MAX_VALUE};
        for (int n : hours) {
            refused("best(0, " + n + ", 0)", START, x -> x.best(0, n, 0));
            refused("best(0, " + n + ", 1)", START, x -> x.best(0, n, 1));
        }
        taken("best(0, 1, 0)", START, x -> x.best(0, 1, 0), 100);
        taken("best(0, 3, 0)", START, x -> x.best(0, 3, 0), 150);
    }

    static void p14AskedForOthers() {
        int[] whats = {-1, 2, Integer.MIN_VALUE, Integer.MAX_VALUE};
        for (int what : whats) {
            refused("best(0, 1, " + what + ")", START, x -> x.best(0, 1, what));
        }
        taken("best(0, 1, 1)", START, x -> x.best(0, 1, 1), 50);
    }

    // ---- promise 15: ship

    static void p15MarkCantBe() {
        int[] marks = {-1, 1000000, Integer.MIN_VALUE, Integer.MAX_VALUE};
        for (int mark : marks) {
            refused("ship(" + mark + ", 50, 0)", START, x -> x.ship(mark, 50, 0));
        }
        taken("ship(0, 50, 0)", START, x -> x.ship(0, 50, 0), 2);
        taken("ship(999999, 50, 0)", START, x -> x.ship(999999, 50, 0), 2);
    }

    static void p15NoSeaCell() {
        for (int cell : NO_CELLS) {
            refused("ship(7, " + cell + ", 0)", START, x -> x.ship(7, cell, 0));
        }
        refused("ship(7, 15, 0) on a shore", START, x -> x.ship(7, 15, 0));
        taken("ship(7, 0, 0)", START, x -> x.ship(7, 0, 0), 2);
        taken("ship(7, 95, 0)", START, x -> x.ship(7, 95, 0), 2);
    }

    static void p15NoSuchHour() {
        int[] hours = {-1, 501, Integer.MIN_VALUE, Integer.MAX_VALUE};
        for (int hour : hours) {
            refused("ship(7, 50, " + hour + ")", START, x -> x.ship(7, 50, hour));
            refused("ship(7, 50, " + hour + ") at 500", LAST_HOUR, x -> x.ship(7, 50, hour));
        }
        refused("ship(7, 50, 1) at 0", START, x -> x.ship(7, 50, 1));
        refused("ship(7, 50, 4) at 3", UNDER_WAY, x -> x.ship(7, 50, 4));
        taken("ship(7, 50, 3) at 3", UNDER_WAY, x -> x.ship(7, 50, 3), 2);
        taken("ship(7, 50, 0) at 3", UNDER_WAY, x -> x.ship(7, 50, 0), 2);
        taken("ship(7, 50, 500) at 500", LAST_HOUR, x -> x.ship(7, 50, 500), 2);
    }

    static void p15EightCame() {
        refused("ship(7, 50, 0)", FULL, x -> x.ship(7, 50, 0));
        Supplier<OilWatch> seven = RefusalTest::sevenShips;
        taken("ship(7, 50, 0) when seven came", seven, x -> x.ship(7, 50, 0), 7);
    }

    private static OilWatch sevenShips() {
        OilWatch x = new OilWatch();
        for (int i = 0; i < 7; i++) {
            x.ship(i, i, 0);
        }
        return x;
    }

    // ---- promises 16 and 17: could, sample

    static void p16NoSuchShip() {
        int[] ships = {-1, 2, 8, Integer.MIN_VALUE, Integer.MAX_VALUE};
        for (int ship : ships) {
            refused("could(" + ship + ", 50)", START, x -> x.could(ship, 50));
        }
        refused("could(8, 50) of eight", FULL, x -> x.could(8, 50));
        taken("could(0, 50)", START, x -> x.could(0, 50), true);
        taken("could(7, 57) of eight", FULL, x -> x.could(7, 57), true);
    }

    static void p16NoSeaCell() {
        for (int cell : NO_CELLS) {
            refused("could(0, " + cell + ")", UNDER_WAY, x -> x.could(0, cell));
        }
        refused("could(1, 15) on a shore, though it drifts there", UNDER_WAY, x -> x.could(1, 15));
        taken("could(1, 14)", UNDER_WAY, x -> x.could(1, 14), true);
    }

    static void p17NoneCould() {
        refused("sample(80, 123456)", START, x -> x.sample(80, 123456));
        refused("sample(50, 123456) without ships", OilWatch::new, x -> x.sample(50, 123456));
        taken("sample(50, 123456)", START, x -> x.sample(50, 123456), 0);
    }

    static void p17NoSeaCell() {
        for (int cell : NO_CELLS) {
            refused("sample(" + cell + ", 123456)", UNDER_WAY, x -> x.sample(cell, 123456));
        }
        refused("sample(15, 123500) on a shore", UNDER_WAY, x -> x.sample(15, 123500));
    }

    static void p17DigitsCantBe() {
        int[] digits = {-1, 1000000, 1123456, Integer.MIN_VALUE, Integer.MAX_VALUE};
        for (int some : digits) {
            refused("sample(50, " + some + ")", START, x -> x.sample(50, some));
        }
        taken("sample(50, 0)", START, x -> x.sample(50, 0), 0);
        taken("sample(50, 999999)", START, x -> x.sample(50, 999999), 0);
    }

    // ---- promises 18 to 21: part, bill, told, count

    static void p18NoSuchParty() {
        int[] parties = {-1, 4, Integer.MIN_VALUE, Integer.MAX_VALUE};
        for (int party : parties) {
            refused("part(" + party + ", 1)", UNDER_WAY, x -> x.part(party, 1));
        }
        taken("part(0, 1)", UNDER_WAY, x -> x.part(0, 1), true);
        taken("part(3, 1)", UNDER_WAY, x -> x.part(3, 1), true);
    }

    static void p18PartsCantBe() {
        int[] parts = {-1, 101, Integer.MIN_VALUE, Integer.MAX_VALUE};
        for (int some : parts) {
            refused("part(0, " + some + ")", UNDER_WAY, x -> x.part(0, some));
        }
        taken("part(0, 0)", UNDER_WAY, x -> x.part(0, 0), true);
        taken("part(0, 100)", UNDER_WAY, x -> x.part(0, 100), true);
    }

    static void p19NoSuchParty() {
        int[] parties = {-1, 4, Integer.MIN_VALUE, Integer.MAX_VALUE};
        for (int party : parties) {
            refused("bill(" + party + ")", UNDER_WAY, x -> x.bill(party));
        }
        taken("bill(2): its parts are 0", UNDER_WAY, x -> x.bill(2), 0);
    }

    static void p20NoSuchSkimmer() {
        int[] skimmers = {-1, 2, 4, Integer.MIN_VALUE, Integer.MAX_VALUE};
        for (int skimmer : skimmers) {
            for (int what = 0; what < 4; what++) {
                int asked = what;
                refused("told(" + skimmer + ", " + asked + ")", START, x -> x.told(skimmer, asked));
            }
        }
        refused("told(4, 0) of four", FULL, x -> x.told(4, 0));
        taken("told(3, 0) of four", FULL, x -> x.told(3, 0), 44);
    }

    static void p20AskedForOthers() {
        int[] whats = {-1, 4, Integer.MIN_VALUE, Integer.MAX_VALUE};
        for (int what : whats) {
            refused("told(1, " + what + ")", START, x -> x.told(1, what));
        }
        taken("told(1, 0)", START, x -> x.told(1, 0), 63);
        taken("told(1, 3)", START, x -> x.told(1, 3), 1);
    }

    static void p21AskedForOthers() {
        int[] whats = {-1, 11, Integer.MIN_VALUE, Integer.MAX_VALUE};
        for (int what : whats) {
            refused("count(" + what + ")", START, x -> x.count(what));
        }
        taken("count(0)", UNDER_WAY, x -> x.count(0), 3);
        taken("count(10)", UNDER_WAY, x -> x.count(10), 2);
    }

    // ---- all of them

    /** Questions change nothing either. */
    static void questionsChangeNothing() {
        asked("oil", x -> x.oil(50));
        asked("foretold", x -> x.foretold(0, 48));
        asked("worst", x -> x.worst(48));
        asked("best", x -> x.best(0, 3, 0));
        asked("best's cell", x -> x.best(0, 3, 1));
        asked("could", x -> x.could(0, 50));
        asked("sample", x -> x.sample(50, 123456));
        asked("bill", x -> x.bill(3));
        asked("told", x -> x.told(0, 2));
        asked("count", x -> x.count(8));
        asked("go(0)", x -> x.go(0));
    }

    private static void asked(String call, Function<OilWatch, Object> question) {
        OilWatch x = UNDER_WAY.get();
        question.apply(x);
        boolean same = Scenes.allThatCanBeSeen(x).equals(Scenes.allThatCanBeSeen(UNDER_WAY.get()));
        CHECKS.due(call + " changes nothing", same, true);
    }

    /** The digest itself must see the states: each change that is taken shows in it. */
    static void whatIsTakenIsSeen() {
        seen("shore", START, x -> x.shore(15, 5));
        seen("weather", START, x -> x.weather(0, 0, 3, 0));
        seen("boom", START, x -> x.boom(20, 21, 1));
        seen("lift", START, x -> x.lift(0));
        seen("spill", START, x -> x.spill(94, 1));
        seen("skimmer", START, x -> x.skimmer(3, 1, 1, 1));
        seen("sail", START, x -> x.sail(0, 51));
        seen("empty", LAST_HOUR, x -> x.empty(1));
        seen("go", START, x -> x.go(1));
        seen("ship", START, x -> x.ship(0, 94, 0));
        seen("part", UNDER_WAY, x -> x.part(2, 100));
    }

    private static void seen(String call, Supplier<OilWatch> scene, Function<OilWatch, Object> change) {
        OilWatch x = scene.get();
        change.apply(x);
        boolean same = Scenes.allThatCanBeSeen(x).equals(Scenes.allThatCanBeSeen(scene.get()));
        CHECKS.due(call + " is seen", same, false);
    }
}
