/**
 * The edges of what looks ahead (foretold, worst, best): a test of its own for each sentence, with the sentence above
 * it; values worked out by hand. Up to 33 liters lose nothing in an hour.
 */
public final class LookAheadEdgeTest {
    private static final Checks CHECKS = new Checks("LookAheadEdgeTest");
    private static final int NORTH = 1;
    private static final int EAST = 2;
    private static final int SOUTH = 3;
    private static final int WEST = 4;

    public static void main(String[] args) throws ReflectiveOperationException {
        CHECKS.runEachTestOf(LookAheadEdgeTest.class);
        CHECKS.finish();
    }

    private static void due(String call, long got, long want) {
        CHECKS.due(call, got, want);
    }

    private static OilWatch at(int hour) {
        OilWatch x = new OilWatch();
        x.shore(51, 9);
        for (int left = hour; left > 0; left -= 48) {
            x.go(Math.min(left, 48));
        }
        return x;
    }

    // ---- "FORETOLD in a WORLD: HARM after n HOURS (0 .. 48) from NOW on"

    static void foretoldOfNoHoursIsHarmAsItIs() {
        OilWatch x = at(0);
        x.spill(50, 2000);
        for (int world = 0; world < 3; world++) {
            x.weather(world, 0, EAST, 0);
            due("foretold(" + world + ", 0)", x.foretold(world, 0), 0);
            due("foretold(" + world + ", 1)", x.foretold(world, 1), 9);
        }
        x.go(1);
        for (int world = 0; world < 3; world++) {
            due("foretold(" + world + ", 0) at 1", x.foretold(world, 0), 9);
        }
    }

    static void foretoldOf48HoursSeesTheLastOfThem() {
        OilWatch x = at(0);
        x.spill(0, 1);
        x.go(48);
        x.spill(50, 2000);
        x.weather(0, 48 + 47, EAST, 0);
        x.weather(1, 48 + 48, EAST, 0);
        int left = 2000;
        for (int hour = 0; hour < 47; hour++) {
            left -= left * 2 / 1000;
        }
        due("foretold(0, 47)", x.foretold(0, 47), 0);
        due("foretold(0, 48)", x.foretold(0, 48), left / 2 * 9 / 1000);
        due("foretold(1, 48): the hour after it", x.foretold(1, 48), 0);
        x.go(1);
        due("foretold(1, 48): an hour later", x.foretold(1, 48), (left - left * 2 / 1000) / 2 * 9 / 1000);
    }

    static void foretoldInTheTrueWorldComesTrue() {
        OilWatch[] watches = {alike(), alike()};
        int[] foretold = new int[49];
        for (int n = 0; n <= 48; n++) {
            foretold[n] = watches[0].foretold(0, n);
        }
        for (int n = 0; n <= 48; n++) {
            due("count(7) at " + n, watches[1].count(7), foretold[n]);
            watches[1].go(1);
        }
        due("the harm grows", foretold[48] > foretold[10] && foretold[10] > foretold[0] ? 1 : 0, 1);
    }

    private static OilWatch alike() {
        OilWatch x = at(0);
        x.shore(26, 3);
        x.boom(38, 50, 4);
        x.skimmer(49, 700, 4000, 1);
        x.skimmer(49, 300, 100, 1);
        for (int cell = 36; cell < 60; cell++) {
            x.spill(cell, 20000);
        }
        for (int hour = 0; hour < 48; hour++) {
            x.weather(0, hour, 1 + hour % 2, hour % 10);
        }
        return x;
    }

    static void foretoldChangesNothing() {
        OilWatch x = alike();
        x.foretold(0, 48);
        x.foretold(2, 48);
        x.worst(48);
        OilWatch y = alike();
        for (int cell = 0; cell < 96; cell++) {
            due("oil(" + cell + ")", x.oil(cell), y.oil(cell));
        }
        for (int what = 0; what <= 10; what++) {
            due("count(" + what + ")", x.count(what), y.count(what));
        }
        due("told(0, 1)", x.told(0, 1), 0);
    }

    static void foretoldGoesByItsOwnWorldFromNowOn() {
        OilWatch x = at(0);
        x.shore(49, 1);
        x.shore(38, 4);
        x.spill(50, 4000);
        x.weather(0, 0, EAST, 0);
        x.weather(1, 0, WEST, 0);
        x.weather(2, 0, NORTH, 0);
        due("foretold(0, 1)", x.foretold(0, 1), 18);
        due("foretold(1, 1)", x.foretold(1, 1), 2);
        due("foretold(2, 1)", x.foretold(2, 1), 8);
        x.go(1);
        due("foretold(1, 1): what was in the other worlds is no more", x.foretold(1, 1), 18);
    }

    static void foretoldGoesOnWithAge() {
        OilWatch x = at(0);
        x.spill(0, 1);
        x.go(11);
        x.spill(50, 100000);
        x.weather(0, 13, EAST, 0);
        due("foretold(0, 3): 30 of 1000, then 10", x.foretold(0, 3), (97000 - 970) / 2 * 9 / 1000);
    }

    static void foretoldGoesByBoomsOfNow() {
        OilWatch x = new OilWatch();
        x.shore(52, 9);
        x.boom(50, 51, 3);
        x.spill(50, 80000);
        x.weather(0, 0, EAST, 3);
        x.weather(0, 1, EAST, 3);
        x.weather(1, 0, EAST, 4);
        x.weather(1, 1, EAST, 4);
        due("foretold(0, 2): 4000 pass, less 120, half of them", x.foretold(0, 2), 1940 * 9 / 1000);
        due("foretold(1, 2): 40000 pass, less 1200, half of them", x.foretold(1, 2), 19400 * 9 / 1000);
        x.lift(0);
        due("foretold(0, 2) without it", x.foretold(0, 2), 19400 * 9 / 1000);
    }

    // ---- "SKIMMERS staying where they are"

    static void foretoldSkimmersTakeWhereTheyAreTillTheyAreFull() {
        OilWatch x = at(0);
        x.spill(50, 20000);
        x.skimmer(50, 5000, 7000, 1);
        x.weather(0, 2, EAST, 0);
        int second = 19400 - 5000 - (19400 - 5000) * 30 / 1000 - 2000;
        due("foretold(0, 3): 5000 and 2000 taken", x.foretold(0, 3), second / 2 * 9 / 1000);
        x.sail(0, 49);
        int without = 19400 - 19400 * 30 / 1000;
        due("foretold(0, 3): it is elsewhere", x.foretold(0, 3), without / 2 * 9 / 1000);
    }

    static void foretoldSkimmersRoomIsWhatIsLeftNow() {
        OilWatch x = at(0);
        x.spill(50, 20000);
        x.skimmer(50, 5000, 5000, 1);
        x.go(1);
        x.weather(0, 2, EAST, 0);
        int left = 14400 - 14400 * 30 / 1000;
        due("foretold(0, 2): it is full", x.foretold(0, 2), left / 2 * 9 / 1000);
        x.empty(0);
        due("foretold(0, 2): it has room", x.foretold(0, 2), (left - 5000) / 2 * 9 / 1000);
    }

    /** The document bounds go by 500, and these not: hours after 500 go on, and nothing was told of them. */
    static void foretoldBeyondHour500HasNoWeatherThere() {
        OilWatch x = at(500);
        x.spill(50, 4000);
        x.weather(0, 500, EAST, 0);
        due("foretold(0, 1)", x.foretold(0, 1), 18);
        due("foretold(0, 48)", x.foretold(0, 48), 18);
        due("foretold(1, 48)", x.foretold(1, 48), 0);
        due("worst(48)", x.worst(48), 18);
        due("count(0)", x.count(0), 500);
    }

    // ---- "WORST of n HOURS: the greatest of all three."

    static void worstIsTheGreatestWhicheverWorldHasIt() {
        int[] ways = {EAST, SOUTH, WEST};
        int[] harms = {18, 10, 2};
        for (int shift = 0; shift < 3; shift++) {
            OilWatch x = at(0);
            x.shore(62, 5);
            x.shore(49, 1);
            x.spill(50, 4000);
            for (int world = 0; world < 3; world++) {
                x.weather(world, 0, ways[(world + shift) % 3], 0);
                due("foretold(" + world + ", 1)", x.foretold(world, 1), harms[(world + shift) % 3]);
            }
            due("worst(1)", x.worst(1), 18);
        }
    }

    static void worstOfLikeWorldsIsTheSame() {
        OilWatch x = at(0);
        x.spill(50, 4000);
        due("worst(48): none of all", x.worst(48), 0);
        for (int world = 0; world < 3; world++) {
            x.weather(world, 0, EAST, 0);
        }
        due("worst(1)", x.worst(1), 18);
    }

    static void worstOfNoHoursIsHarmAsItIs() {
        OilWatch x = at(0);
        x.spill(50, 4000);
        for (int world = 0; world < 3; world++) {
            x.weather(world, 0, EAST, 0);
        }
        due("worst(0)", x.worst(0), 0);
        x.go(1);
        due("worst(0) at 1", x.worst(0), 18);
    }

    static void worstOf48HoursSeesTheLastOfThem() {
        OilWatch x = at(0);
        x.spill(0, 1);
        x.go(48);
        x.spill(50, 100000);
        x.weather(1, 95, EAST, 0);
        due("worst(47)", x.worst(47), 0);
        due("worst(48)", x.worst(48), x.foretold(1, 48));
        due("worst(48) is some", x.worst(48) > 400 ? 1 : 0, 1);
    }

    // ---- "ahead of each of these it goes to a CELL that it could go to (or stays)"

    static void bestGoesAsFarAsItsSpeed() {
        for (int speed = 1; speed <= 3; speed++) {
            for (int n = 1; n <= 3; n++) {
                OilWatch near = new OilWatch();
                near.skimmer(48, 10, 100, speed);
                near.spill(48 + speed * n, 10);
                due("best at speed " + speed + " for " + n, near.best(0, n, 0), 10);
                OilWatch far = new OilWatch();
                far.skimmer(48, 10, 100, speed);
                far.spill(48 + speed * n + 1, 10);
                due("best of one cell more", far.best(0, n, 0), 0);
            }
        }
    }

    static void bestStaysWhereMostIs() {
        OilWatch x = new OilWatch();
        x.skimmer(50, 10, 100, 3);
        x.spill(50, 30);
        x.spill(49, 9);
        for (int n = 1; n <= 3; n++) {
            due("best(0, " + n + ", 0)", x.best(0, n, 0), 10 * n);
            due("best(0, " + n + ", 1)", x.best(0, n, 1), 50);
        }
    }

    static void bestGoesNotOverAShore() {
        OilWatch x = new OilWatch();
        x.shore(51, 1);
        x.skimmer(50, 10, 100, 2);
        x.spill(52, 10);
        due("best(0, 1, 0): four cells around", x.best(0, 1, 0), 0);
        due("best(0, 2, 0)", x.best(0, 2, 0), 10);
        due("best(0, 2, 1): by 39", x.best(0, 2, 1), 39);
    }

    static void bestShutInByShoresStays() {
        OilWatch x = new OilWatch();
        int[] shores = {38, 49, 51, 62};
        for (int cell : shores) {
            x.shore(cell, 1);
        }
        x.skimmer(50, 10, 100, 3);
        x.spill(37, 30);
        for (int n = 1; n <= 3; n++) {
            due("best(0, " + n + ", 0)", x.best(0, n, 0), 0);
            due("best(0, " + n + ", 1)", x.best(0, n, 1), 50);
        }
        x.spill(50, 30);
        due("best(0, 3, 0)", x.best(0, 3, 0), 30);
    }

    static void bestInACorner() {
        int[] corners = {0, 11, 84, 95};
        int[] firsts = {0, 10, 72, 83};
        for (int i = 0; i < 4; i++) {
            OilWatch x = new OilWatch();
            x.skimmer(corners[i], 10, 100, 1);
            due("best(0, 1, 1) in " + corners[i], x.best(0, 1, 1), firsts[i]);
            x.spill(corners[i], 5);
            due("best(0, 1, 0)", x.best(0, 1, 0), 5);
            due("best(0, 1, 1)", x.best(0, 1, 1), corners[i]);
        }
    }

    static void bestKnowsNoWayAroundTheNetsEdge() {
        OilWatch x = new OilWatch();
        x.skimmer(23, 10, 100, 3);
        x.spill(24, 10);
        x.spill(12, 10);
        due("best(0, 3, 0)", x.best(0, 3, 0), 0);
    }

    // ---- "the most liters that it takes in them"

    static void bestTakesNoMoreThanItsRate() {
        OilWatch x = new OilWatch();
        x.skimmer(50, 7, 100, 1);
        x.spill(50, 33);
        due("best(0, 1, 0)", x.best(0, 1, 0), 7);
        due("best(0, 2, 0)", x.best(0, 2, 0), 14);
        due("best(0, 3, 0)", x.best(0, 3, 0), 21);
    }

    static void bestTakesNoMoreThanItHasRoomFor() {
        OilWatch x = new OilWatch();
        x.skimmer(50, 7, 16, 1);
        x.spill(50, 33);
        due("best(0, 3, 0)", x.best(0, 3, 0), 16);
        x.go(1);
        due("best(0, 3, 0): 7 are in it", x.best(0, 3, 0), 9);
        x.go(2);
        due("best(0, 3, 0): full", x.best(0, 3, 0), 0);
        due("best(0, 3, 1): the first of all ways", x.best(0, 3, 1), 38);
        x.empty(0);
        due("best(0, 3, 0): emptied", x.best(0, 3, 0), 16);
    }

    static void bestOfASkimmerWithoutRoomIs0() {
        OilWatch x = new OilWatch();
        x.skimmer(50, 5000, 0, 3);
        x.spill(50, 33);
        for (int n = 1; n <= 3; n++) {
            due("best(0, " + n + ", 0)", x.best(0, n, 0), 0);
            due("best(0, " + n + ", 1)", x.best(0, n, 1), 14);
        }
    }

    static void bestIsOfAllHoursTogether() {
        OilWatch x = new OilWatch();
        x.skimmer(50, 20, 100, 1);
        x.spill(49, 15);
        x.spill(52, 20);
        x.spill(53, 20);
        due("best(0, 1, 0)", x.best(0, 1, 0), 15);
        due("best(0, 1, 1)", x.best(0, 1, 1), 49);
        due("best(0, 2, 0): nothing at first", x.best(0, 2, 0), 20);
        due("best(0, 2, 1)", x.best(0, 2, 1), 51);
        due("best(0, 3, 0)", x.best(0, 3, 0), 40);
        due("best(0, 3, 1)", x.best(0, 3, 1), 51);
    }

    static void bestLosesByAgeAsHoursGo() {
        OilWatch x = new OilWatch();
        x.spill(0, 1);
        x.go(11);
        x.skimmer(50, 5000, 100000, 1);
        x.spill(52, 1000);
        due("best(0, 2, 0): 30, then 10 of 1000 lost", x.best(0, 2, 0), 970 - 9);
    }

    // ---- "by the true WORLD's WEATHER"

    static void bestGoesByTheTrueWorld() {
        OilWatch x = new OilWatch();
        x.skimmer(50, 30, 100, 1);
        x.spill(50, 20);
        x.weather(0, 0, EAST, 0);
        x.weather(1, 0, WEST, 0);
        x.weather(2, 0, NORTH, 0);
        x.weather(0, 1, EAST, 0);
        due("best(0, 1, 0): half of it", x.best(0, 1, 0), 10);
        due("best(0, 1, 1): 50 is ahead of 51", x.best(0, 1, 1), 50);
        due("best(0, 2, 0): 10 in 50, then 5 of the others in 51; or 10 in 51, then 5", x.best(0, 2, 0), 15);
        due("best(0, 2, 1)", x.best(0, 2, 1), 50);
    }

    static void bestGoesByBooms() {
        OilWatch x = new OilWatch();
        x.boom(50, 51, 2);
        x.skimmer(51, 30, 100, 1);
        x.spill(50, 20);
        x.shore(49, 1);
        x.weather(0, 0, EAST, 2);
        due("best(0, 1, 0): 19 stay", x.best(0, 1, 0), 19);
        due("best(0, 1, 1)", x.best(0, 1, 1), 50);
        x.weather(0, 0, EAST, 3);
        due("best(0, 1, 0): 10 pass", x.best(0, 1, 0), 10);
    }

    static void bestTakesNothingThatIsAshore() {
        OilWatch x = new OilWatch();
        x.shore(51, 1);
        x.skimmer(50, 30, 100, 1);
        x.spill(50, 20);
        x.weather(0, 0, EAST, 0);
        due("best(0, 1, 0)", x.best(0, 1, 0), 10);
        due("best(0, 3, 0)", x.best(0, 3, 0), 10);
    }

    /** As foretold: hours after 500 go on, and nothing was told of them. */
    static void bestBeyondHour500HasNoWeatherThere() {
        OilWatch x = at(500);
        x.skimmer(48, 10, 100, 1);
        x.spill(48, 32);
        x.weather(0, 500, WEST, 0);
        due("best(0, 1, 0)", x.best(0, 1, 0), 10);
        due("best(0, 3, 0): 16 left in the first hour, none in the next", x.best(0, 3, 0), 16);
    }

    // ---- "others stay"

    static void bestOfTheGreaterNumberTakesAfterTheLesser() {
        OilWatch x = new OilWatch();
        x.spill(50, 30);
        x.skimmer(50, 20, 100, 1);
        x.skimmer(50, 20, 100, 1);
        due("best(0, 1, 0)", x.best(0, 1, 0), 20);
        due("best(1, 1, 0)", x.best(1, 1, 0), 10);
        due("best(0, 2, 0): the other takes the last 10", x.best(0, 2, 0), 20);
        due("best(1, 2, 0)", x.best(1, 2, 0), 10);
    }

    static void bestOthersStayAndTakeWhereTheyAre() {
        OilWatch x = new OilWatch();
        x.spill(51, 33);
        x.skimmer(50, 10, 100, 1);
        x.skimmer(51, 12, 100, 1);
        due("best(0, 1, 0)", x.best(0, 1, 0), 10);
        due("best(0, 3, 0): 10, the other 12, 10, the other the last", x.best(0, 3, 0), 20);
        OilWatch y = new OilWatch();
        y.spill(51, 33);
        y.skimmer(50, 10, 100, 1);
        y.skimmer(51, 12, 5, 1);
        due("best(0, 3, 0): 10, the other 5 and is full, 10, 8", y.best(0, 3, 0), 28);
    }

    static void bestOthersThatWentDontMatter() {
        OilWatch x = new OilWatch();
        x.spill(50, 30);
        x.skimmer(50, 20, 100, 1);
        x.skimmer(50, 20, 100, 1);
        x.sail(1, 62);
        due("best(0, 2, 0): the other is elsewhere", x.best(0, 2, 0), 30);
        due("best(1, 1, 0): it went in this hour", x.best(1, 1, 0), -1);
    }

    // ---- "the CELL told is the first one of the first such way (by CELLS, step by step)"

    static void bestOfLikeCellsIsTheLeast() {
        OilWatch x = new OilWatch();
        x.skimmer(50, 10, 100, 1);
        int[] cells = {62, 51, 50, 49, 38};
        for (int cell : cells) {
            x.spill(cell, 10);
            due("best(0, 1, 1) with " + cell, x.best(0, 1, 1), cell);
        }
    }

    static void bestOfNothingIsTheLeastCell() {
        int[] least = {38, 26, 14};
        for (int speed = 1; speed <= 3; speed++) {
            OilWatch x = new OilWatch();
            x.skimmer(50, 10, 100, speed);
            for (int n = 1; n <= 3; n++) {
                due("best(0, " + n + ", 0)", x.best(0, n, 0), 0);
                due("best(0, " + n + ", 1) at speed " + speed, x.best(0, n, 1), least[speed - 1]);
            }
        }
    }

    static void bestOfLikeWaysIsTheOneWithTheLeastFirstCell() {
        OilWatch x = new OilWatch();
        x.skimmer(50, 10, 100, 1);
        x.spill(63, 10);
        due("best(0, 2, 0)", x.best(0, 2, 0), 10);
        due("best(0, 2, 1): by 51, not by 62", x.best(0, 2, 1), 51);
        due("best(0, 3, 1): three hours allow none less", x.best(0, 3, 1), 50);
    }

    static void bestOfMoreLitersLaterIsFirst() {
        OilWatch x = new OilWatch();
        x.skimmer(50, 10, 100, 1);
        x.spill(38, 9);
        x.spill(74, 10);
        due("best(0, 1, 1)", x.best(0, 1, 1), 38);
        due("best(0, 2, 0)", x.best(0, 2, 0), 10);
        due("best(0, 2, 1)", x.best(0, 2, 1), 62);
    }
}
