/**
 * The edges of the terms that an hour is made of (cells, weather, booms, age, skimmers, harm): a test of its own for
 * each sentence, with the sentence above it; values worked out by hand. Up to 33 liters lose nothing in an hour.
 */
public final class HourEdgeTest {
    private static final Checks CHECKS = new Checks("HourEdgeTest");
    private static final int NORTH = 1;
    private static final int EAST = 2;
    private static final int SOUTH = 3;
    private static final int WEST = 4;
    private static final int[] STEPS = {0, -12, 1, 12, -1};

    public static void main(String[] args) throws ReflectiveOperationException {
        CHECKS.runEachTestOf(HourEdgeTest.class);
        CHECKS.finish();
    }

    private static void due(String call, long got, long want) {
        CHECKS.due(call, got, want);
    }

    private static void due(String call, boolean got, boolean want) {
        CHECKS.due(call, got, want);
    }

    private static OilWatch goneFor(int hours) {
        OilWatch x = new OilWatch();
        for (int left = hours; left > 0; left -= 48) {
            x.go(Math.min(left, 48));
        }
        return x;
    }

    // ---- "CELLS are 0 .. 95: ROW times 12 and COLUMN (8 ROWS, 12 COLUMNS)."
    // ---- "what would leave the net is AWAY"

    static void cellsEastOfARowsEndIsAway() {
        for (int end = 11; end < 96; end += 12) {
            OilWatch x = new OilWatch();
            x.spill(end, 30);
            x.weather(0, 0, EAST, 0);
            x.go(1);
            due("count(5) from " + end, x.count(5), 15);
            due("oil(" + end + ")", x.oil(end), 15);
            due("count(2): not in the next row", x.count(2), 15);
        }
    }

    static void cellsWestOfARowsBeginIsAway() {
        for (int begin = 0; begin < 96; begin += 12) {
            OilWatch x = new OilWatch();
            x.spill(begin, 30);
            x.weather(0, 0, WEST, 0);
            x.go(1);
            due("count(5) from " + begin, x.count(5), 15);
            due("oil(" + begin + ")", x.oil(begin), 15);
            due("count(2): not in the row before", x.count(2), 15);
        }
    }

    static void cellsNorthOfTheFirstRowIsAway() {
        for (int cell = 0; cell < 12; cell++) {
            OilWatch x = new OilWatch();
            x.spill(cell, 30);
            x.spill(cell + 12, 20);
            x.weather(0, 0, NORTH, 0);
            x.go(1);
            due("count(5) from " + cell, x.count(5), 15);
            due("oil(" + cell + "): 10 from the second row", x.oil(cell), 25);
            due("oil(" + (cell + 84) + "): not in the last row", x.oil(cell + 84), 0);
        }
    }

    static void cellsSouthOfTheLastRowIsAway() {
        for (int cell = 84; cell < 96; cell++) {
            OilWatch x = new OilWatch();
            x.spill(cell, 30);
            x.spill(cell - 12, 20);
            x.weather(0, 0, SOUTH, 0);
            x.go(1);
            due("count(5) from " + cell, x.count(5), 15);
            due("oil(" + cell + "): 10 from the row before", x.oil(cell), 25);
            due("oil(" + (cell - 84) + "): not in the first row", x.oil(cell - 84), 0);
        }
    }

    static void cellsWithinTheNetNothingIsAway() {
        int[] cells = {13, 22, 73, 82};
        for (int cell : cells) {
            for (int way = 1; way <= 4; way++) {
                OilWatch x = new OilWatch();
                x.spill(cell, 30);
                x.weather(0, 0, way, 0);
                x.go(1);
                due("count(5) from " + cell + " by " + way, x.count(5), 0);
                due("oil(" + (cell + STEPS[way]) + ")", x.oil(cell + STEPS[way]), 15);
            }
        }
    }

    // ---- "A CELL is sea, or SHORE of a RANK (1 .. 9; told)."

    static void cellsCanAllBeShore() {
        for (int cell = 0; cell < 96; cell++) {
            OilWatch x = new OilWatch();
            boolean isEastmost = cell % 12 == 11;
            x.shore(cell, 3);
            x.spill(isEastmost ? cell - 1 : cell + 1, 2000);
            x.weather(0, 0, isEastmost ? EAST : WEST, 0);
            due("foretold(0, 1) with shore " + cell, x.foretold(0, 1), 3);
            x.go(1);
            due("oil(" + cell + ")", x.oil(cell), 1000);
            due("count(4)", x.count(4), 1000);
            due("count(2)", x.count(2), 970);
            due("count(7)", x.count(7), 3);
        }
    }

    // ---- "HOURS are 0 .. 500; NOW is one (0 at first)."

    static void nowIs0AtFirst() {
        due("count(0)", new OilWatch().count(0), 0);
        due("go(0)", new OilWatch().go(0), 0);
    }

    static void nowIsNeverBeyond500() {
        OilWatch x = goneFor(499);
        due("count(0)", x.count(0), 499);
        due("go(1)", x.go(1), 500);
        due("go(1) at 500", x.go(1), 500);
        due("go(48) at 500", x.go(48), 500);
        due("go(0) at 500", x.go(0), 500);
        due("count(0)", x.count(0), 500);
    }

    // ---- "none and 0 where nothing was told"

    static void weatherThatNobodyToldIsNone() {
        OilWatch x = new OilWatch();
        x.spill(50, 30);
        x.weather(0, 1, EAST, 9);
        x.weather(1, 0, EAST, 9);
        x.weather(2, 0, EAST, 9);
        x.go(1);
        due("oil(50)", x.oil(50), 30);
        due("oil(51)", x.oil(51), 0);
    }

    // ---- "if there is a WAY" (0 none)

    static void weatherWithoutAWayDriftsNothingWhateverItsForce() {
        for (int force = 0; force <= 9; force++) {
            OilWatch x = new OilWatch();
            x.spill(50, 30);
            x.weather(0, 0, 0, force);
            x.go(1);
            due("oil(50) at force " + force, x.oil(50), 30);
            due("count(2)", x.count(2), 30);
        }
    }

    static void weatherWithAWayDriftsWhateverItsForce() {
        for (int force = 0; force <= 9; force++) {
            for (int way = 1; way <= 4; way++) {
                OilWatch x = new OilWatch();
                x.spill(50, 30);
                x.weather(0, 0, way, force);
                x.go(1);
                due("oil(" + (50 + STEPS[way]) + ") at force " + force, x.oil(50 + STEPS[way]), 15);
            }
        }
    }

    // ---- "WEATHER (in place of what was)"

    static void weatherToldAgainIsInPlaceOfWhatWas() {
        OilWatch x = new OilWatch();
        x.boom(50, 62, 4);
        x.spill(50, 40);
        x.weather(0, 0, EAST, 9);
        x.weather(0, 0, SOUTH, 4);
        x.go(1);
        due("oil(51)", x.oil(51), 0);
        due("oil(62): the boom holds at the later force", x.oil(62), 2);
    }

    static void weatherToldAgainAsNoneIsNone() {
        OilWatch x = new OilWatch();
        x.spill(50, 30);
        x.weather(0, 0, EAST, 9);
        x.weather(0, 0, 0, 0);
        x.go(1);
        due("oil(50)", x.oil(50), 30);
    }

    static void weatherIsOfItsOwnHourOnly() {
        OilWatch x = new OilWatch();
        x.spill(50, 32);
        x.weather(0, 1, EAST, 9);
        x.go(1);
        due("oil(50) at 1", x.oil(50), 32);
        x.go(1);
        due("oil(50) at 2", x.oil(50), 16);
        x.go(1);
        due("oil(50) at 3", x.oil(50), 16);
    }

    static void weatherOfHour499IsTheLastThatGoes() {
        OilWatch x = goneFor(499);
        x.spill(50, 32);
        x.weather(0, 499, EAST, 0);
        x.weather(0, 500, EAST, 0);
        x.go(48);
        due("oil(50)", x.oil(50), 16);
        due("oil(51)", x.oil(51), 16);
        due("oil(52)", x.oil(52), 0);
    }

    // ---- "of the OIL in each sea CELL half (cut) drifts"

    static void driftIsHalfCut() {
        int[] spilled = {1, 2, 3, 32, 33};
        int[] drifted = {0, 1, 1, 16, 16};
        for (int i = 0; i < spilled.length; i++) {
            OilWatch x = new OilWatch();
            x.spill(50, spilled[i]);
            x.weather(0, 0, EAST, 0);
            x.go(1);
            due("oil(51) of " + spilled[i], x.oil(51), drifted[i]);
            due("oil(50) of " + spilled[i], x.oil(50), spilled[i] - drifted[i]);
        }
    }

    // ---- "(all CELLS at once, as they were)"

    static void driftIsOfAllCellsAtOnce() {
        for (int way = 1; way <= 4; way++) {
            OilWatch x = new OilWatch();
            int step = STEPS[way];
            x.spill(53, 16);
            x.spill(53 + step, 8);
            x.spill(53 + 2 * step, 4);
            x.weather(0, 0, way, 0);
            x.go(1);
            due("oil(53) by " + way, x.oil(53), 8);
            due("one ahead: 4 and 8", x.oil(53 + step), 12);
            due("two ahead: 2 and 4", x.oil(53 + 2 * step), 6);
            due("three ahead", x.oil(53 + 3 * step), 2);
        }
    }

    // ---- "what comes to a SHORE is ASHORE there"

    static void ashoreDriftsNoFurther() {
        OilWatch x = new OilWatch();
        x.shore(51, 1);
        x.spill(50, 32);
        for (int hour = 0; hour < 3; hour++) {
            x.weather(0, hour, EAST, 0);
        }
        x.go(3);
        due("oil(51): 16, 8, 4", x.oil(51), 28);
        due("oil(52)", x.oil(52), 0);
        due("oil(50)", x.oil(50), 4);
        due("count(4)", x.count(4), 28);
        due("count(2)", x.count(2), 4);
    }

    static void ashoreAtTheNetsEdgeIsNotAway() {
        OilWatch x = new OilWatch();
        x.shore(59, 1);
        x.spill(58, 32);
        x.weather(0, 0, EAST, 0);
        x.weather(0, 1, EAST, 0);
        x.go(2);
        due("oil(59)", x.oil(59), 24);
        due("count(5)", x.count(5), 0);
    }

    static void ashoreDoesNotGoBackToSea() {
        OilWatch x = new OilWatch();
        x.shore(51, 1);
        x.spill(50, 32);
        x.weather(0, 0, EAST, 0);
        x.weather(0, 1, WEST, 0);
        x.go(2);
        due("oil(51)", x.oil(51), 16);
        due("oil(50)", x.oil(50), 8);
    }

    // ---- "Each sea CELL loses": a shore does not

    static void ashoreIsNotLost() {
        OilWatch x = new OilWatch();
        x.shore(51, 1);
        x.spill(50, 100000);
        x.weather(0, 0, EAST, 0);
        x.go(1);
        due("oil(51)", x.oil(51), 50000);
        due("count(3): of the other half only", x.count(3), 1500);
        x.go(48);
        due("oil(51) at 49", x.oil(51), 50000);
    }

    // ---- "while FORCE isn't above it, of what drifts from the one to the other a tenth (cut) passes only"

    static void boomHoldsUpToItsLimit() {
        for (int limit = 0; limit <= 9; limit++) {
            for (int force = 0; force <= 9; force++) {
                OilWatch x = new OilWatch();
                x.boom(50, 51, limit);
                x.spill(50, 40);
                x.weather(0, 0, EAST, force);
                x.go(1);
                boolean holds = force <= limit;
                due("oil(51) by limit " + limit + " at force " + force, x.oil(51), holds ? 2 : 20);
                due("count(2)", x.count(2), holds ? 39 : 40);
            }
        }
    }

    static void boomPassesATenthCut() {
        int[] spilled = {1, 18, 19, 20, 21, 39, 40};
        int[] passed = {0, 0, 0, 1, 1, 1, 2};
        for (int i = 0; i < spilled.length; i++) {
            OilWatch x = new OilWatch();
            x.boom(50, 51, 9);
            x.spill(0, 1);
            x.go(48);
            x.spill(50, spilled[i]);
            x.weather(0, 48, EAST, 9);
            x.go(1);
            due("oil(51) of " + spilled[i], x.oil(51), passed[i]);
            due("oil(50): the rest stays", x.oil(50), spilled[i] - passed[i]);
        }
    }

    static void boomHoldsFromBothSides() {
        int[] ends = {49, 51, 38, 62};
        int[] waysTo50 = {EAST, WEST, SOUTH, NORTH};
        for (int i = 0; i < 4; i++) {
            for (int order = 0; order < 2; order++) {
                OilWatch x = new OilWatch();
                due("boom", order == 0 ? x.boom(50, ends[i], 3) : x.boom(ends[i], 50, 3), 0);
                x.spill(ends[i], 20);
                x.weather(0, 0, waysTo50[i], 3);
                x.go(1);
                due("oil(50) from " + ends[i], x.oil(50), 1);
                due("oil(" + ends[i] + ")", x.oil(ends[i]), 19);
                OilWatch y = new OilWatch();
                due("boom", order == 0 ? y.boom(50, ends[i], 3) : y.boom(ends[i], 50, 3), 0);
                y.spill(50, 20);
                y.weather(0, 0, waysTo50[(i / 2) * 2 + 1 - i % 2], 3);
                y.go(1);
                due("oil(" + ends[i] + ") from 50", y.oil(ends[i]), 1);
                due("oil(50)", y.oil(50), 19);
            }
        }
    }

    static void boomHoldsOnlyBetweenItsCells() {
        int[] want = {0, 10, 1, 10, 10};
        for (int way = 1; way <= 4; way++) {
            OilWatch x = new OilWatch();
            x.boom(50, 51, 9);
            x.boom(49, 61, 9);
            x.boom(38, 39, 9);
            x.boom(62, 63, 9);
            x.spill(50, 20);
            x.weather(0, 0, way, 0);
            x.go(1);
            due("oil(" + (50 + STEPS[way]) + ")", x.oil(50 + STEPS[way]), want[way]);
        }
    }

    static void boomHoldsNothingThatLeavesTheNet() {
        OilWatch x = new OilWatch();
        x.boom(47, 46, 9);
        x.boom(47, 59, 9);
        x.boom(47, 35, 9);
        x.spill(47, 20);
        x.weather(0, 0, EAST, 0);
        x.go(1);
        due("count(5)", x.count(5), 10);
    }

    // ---- "else all passes"; a boom that failed is still there

    static void boomHoldsAgainWhenTheForceIsNoMoreAbove() {
        OilWatch x = new OilWatch();
        x.boom(50, 51, 4);
        x.spill(50, 32);
        x.weather(0, 0, EAST, 5);
        x.weather(0, 1, EAST, 4);
        x.go(1);
        due("oil(51) at force 5", x.oil(51), 16);
        due("count(9)", x.count(9), 1);
        x.go(1);
        due("oil(50) at force 4: 8 drift, none passes", x.oil(50), 16);
    }

    static void boomTwoOfThemHoldEachByItsOwnLimit() {
        OilWatch x = new OilWatch();
        x.boom(50, 51, 3);
        x.boom(51, 52, 7);
        x.spill(50, 20);
        x.spill(51, 20);
        x.weather(0, 0, EAST, 5);
        x.go(1);
        due("oil(50)", x.oil(50), 10);
        due("oil(51): 10 come, 1 goes", x.oil(51), 29);
        due("oil(52)", x.oil(52), 1);
    }

    // ---- "its number (of those there, the least that is free)"

    static void boomTakesTheLeastFreeNumber() {
        OilWatch x = new OilWatch();
        for (int i = 0; i < 5; i++) {
            due("boom", x.boom(i, i + 12, 1), i);
        }
        x.lift(3);
        x.lift(0);
        x.lift(4);
        due("count(9)", x.count(9), 2);
        due("boom: 0 is free", x.boom(20, 21, 1), 0);
        due("boom: 3 is free", x.boom(21, 22, 1), 3);
        due("boom: 4 is free", x.boom(22, 23, 1), 4);
        due("boom: 5 is next", x.boom(30, 31, 1), 5);
        due("count(9)", x.count(9), 6);
    }

    static void boomARefusedOneTakesNoNumber() {
        OilWatch x = new OilWatch();
        x.boom(0, 2, 1);
        x.boom(0, 1, 10);
        due("boom", x.boom(0, 1, 1), 0);
        x.boom(1, 0, 1);
        due("boom", x.boom(1, 2, 1), 1);
    }

    // ---- promise 5: "A BOOM goes"

    static void liftedBoomHoldsNothingAndTheOthersStill() {
        OilWatch x = new OilWatch();
        x.boom(50, 51, 9);
        x.boom(62, 63, 9);
        x.spill(50, 20);
        x.spill(62, 20);
        x.weather(0, 0, EAST, 0);
        due("lift(0)", x.lift(0), true);
        x.go(1);
        due("oil(51)", x.oil(51), 10);
        due("oil(63)", x.oil(63), 1);
        due("lift(1)", x.lift(1), true);
        due("count(9)", x.count(9), 0);
    }

    static void liftedBoomLaidAgainHasItsNewLimit() {
        OilWatch x = new OilWatch();
        x.boom(50, 51, 9);
        x.lift(0);
        due("boom(51, 50, 2)", x.boom(51, 50, 2), 0);
        x.spill(50, 20);
        x.weather(0, 0, EAST, 3);
        x.go(1);
        due("oil(51)", x.oil(51), 10);
    }

    // ---- "30 if AGE is below 12 HOURS, 10 below 48, else 2"

    static void lossOfAge0Is30() {
        due("oil left", leftAtAge(0, 0), 970);
        due("oil left", leftAtAge(5, 0), 970);
    }

    static void lossOfAge11Is30() {
        due("oil left", leftAtAge(0, 11), 970);
        due("oil left", leftAtAge(5, 11), 970);
    }

    static void lossOfAge12Is10() {
        due("oil left", leftAtAge(0, 12), 990);
        due("oil left", leftAtAge(5, 12), 990);
    }

    static void lossOfAge47Is10() {
        due("oil left", leftAtAge(0, 47), 990);
        due("oil left", leftAtAge(5, 47), 990);
    }

    static void lossOfAge48Is2() {
        due("oil left", leftAtAge(0, 48), 998);
        due("oil left", leftAtAge(5, 48), 998);
    }

    static void lossOfTheGreatestAgeIs2() {
        due("oil left", leftAtAge(0, 499), 998);
    }

    /** Of 1000 liters spilled at that age, after one hour. */
    private static int leftAtAge(int firstSpill, int age) {
        OilWatch x = goneFor(firstSpill);
        x.spill(0, 1);
        for (int left = age; left > 0; left -= 48) {
            x.go(Math.min(left, 48));
        }
        x.spill(50, 1000);
        x.go(1);
        return x.oil(50);
    }

    static void lossChangesWithinOneGo() {
        OilWatch x = new OilWatch();
        x.spill(50, 1000);
        int left = 1000;
        for (int age = 0; age < 48; age++) {
            left -= left * (age < 12 ? 30 : 10) / 1000;
        }
        x.go(48);
        due("oil(50) at 48", x.oil(50), left);
        left -= left * 2 / 1000;
        x.go(1);
        due("oil(50) at 49", x.oil(50), left);
    }

    // ---- "so many parts of 1000 (cut)"

    static void lossIsCut() {
        int[] ages = {0, 12, 48};
        int[] least = {34, 100, 500};
        for (int i = 0; i < 3; i++) {
            OilWatch x = new OilWatch();
            x.spill(0, 1);
            x.go(ages[i]);
            x.spill(50, least[i]);
            x.spill(70, least[i] - 1);
            x.go(1);
            due("oil(50): one of " + least[i], x.oil(50), least[i] - 1);
            due("oil(70): none of " + (least[i] - 1), x.oil(70), least[i] - 1);
            due("count(3)", x.count(3), 1);
        }
    }

    static void lossOfAMillionLitersInOneCell() {
        OilWatch x = new OilWatch();
        for (int i = 0; i < 10; i++) {
            x.spill(50, 100000);
        }
        x.go(1);
        due("oil(50)", x.oil(50), 970000);
        due("count(3)", x.count(3), 30000);
    }

    // ---- "of what it has then": after the drift, in each cell for itself

    static void lossIsOfWhatACellHasAfterTheDrift() {
        OilWatch x = new OilWatch();
        x.spill(50, 66);
        x.spill(71, 1);
        x.spill(70, 66);
        x.weather(0, 0, EAST, 0);
        x.go(1);
        due("oil(50): 33", x.oil(50), 33);
        due("oil(51): 33", x.oil(51), 33);
        due("oil(71): 34 less 1", x.oil(71), 33);
        due("count(3)", x.count(3), 1);
    }

    static void lossIsNotOfWhatIsAway() {
        OilWatch x = new OilWatch();
        x.spill(0, 2000);
        x.weather(0, 0, NORTH, 0);
        x.go(1);
        due("count(5)", x.count(5), 1000);
        due("count(3)", x.count(3), 30);
    }

    // ---- "AGE counts from the first SPILL's HOUR on, for all OIL."

    static void ageIsThatOfTheFirstSpillForLaterOilToo() {
        OilWatch x = new OilWatch();
        x.spill(0, 1);
        x.go(12);
        x.spill(50, 1000);
        x.go(1);
        due("oil(50)", x.oil(50), 990);
    }

    static void ageIsNotThatOfTheLatestSpill() {
        OilWatch x = new OilWatch();
        x.spill(50, 1000);
        x.go(11);
        int left = x.oil(50);
        x.spill(70, 1);
        x.go(1);
        due("at age 11", x.oil(50), left - left * 30 / 1000);
        left = x.oil(50);
        x.spill(70, 1);
        x.go(1);
        due("at age 12", x.oil(50), left - left * 10 / 1000);
    }

    static void ageDoesNotBeginWithARefusedSpill() {
        OilWatch x = new OilWatch();
        x.shore(7, 1);
        x.spill(7, 1);
        x.spill(0, 0);
        x.spill(96, 1);
        x.spill(0, 100001);
        x.go(12);
        x.spill(50, 1000);
        x.go(1);
        due("oil(50)", x.oil(50), 970);
    }

    static void ageGoesOnWhenAllOilIsGone() {
        OilWatch x = new OilWatch();
        x.spill(50, 1);
        x.skimmer(50, 1, 1, 1);
        x.go(1);
        due("count(2)", x.count(2), 0);
        x.go(11);
        x.spill(70, 1000);
        x.go(1);
        due("oil(70)", x.oil(70), 990);
    }

    // ---- "SKIMMERS by numbers take from the CELL where they are as much as they can (RATE), as is there, and as
    // ---- they have ROOM for"

    static void skimmersTakeByNumbers() {
        OilWatch x = new OilWatch();
        x.spill(50, 33);
        x.skimmer(51, 20, 100, 1);
        x.skimmer(50, 20, 100, 1);
        x.skimmer(50, 20, 100, 1);
        x.sail(0, 50);
        x.go(1);
        due("told(0, 1): though it came to the cell last", x.told(0, 1), 20);
        due("told(1, 1)", x.told(1, 1), 13);
        due("told(2, 1)", x.told(2, 1), 0);
    }

    static void skimmerTakesItsRateAtMost() {
        int[] rates = {1, 29, 30, 31};
        for (int rate : rates) {
            OilWatch x = new OilWatch();
            x.spill(50, 30);
            x.skimmer(50, rate, 100, 1);
            x.go(1);
            due("told(0, 1) at rate " + rate, x.told(0, 1), Math.min(rate, 30));
            due("oil(50)", x.oil(50), 30 - Math.min(rate, 30));
        }
        OilWatch x = new OilWatch();
        x.spill(50, 100000);
        x.skimmer(50, 5000, 100000, 1);
        x.go(1);
        due("told(0, 1) at the greatest rate", x.told(0, 1), 5000);
    }

    static void skimmerTakesWhatItHasRoomForAtMost() {
        int[] rooms = {0, 1, 24, 25, 26};
        for (int room : rooms) {
            OilWatch x = new OilWatch();
            x.spill(50, 30);
            x.skimmer(50, 25, room, 1);
            x.go(1);
            due("told(0, 1) with room " + room, x.told(0, 1), Math.min(room, 25));
            due("count(6)", x.count(6), Math.min(room, 25));
            due("oil(50)", x.oil(50), 30 - Math.min(room, 25));
        }
    }

    static void skimmerThatIsFullTakesNothing() {
        OilWatch x = new OilWatch();
        x.spill(50, 30);
        x.skimmer(50, 10, 15, 1);
        x.go(2);
        due("told(0, 1): 10 and 5", x.told(0, 1), 15);
        x.go(1);
        due("told(0, 1)", x.told(0, 1), 15);
        due("oil(50)", x.oil(50), 15);
    }

    static void skimmerOfTheGreatestRoomIsFullAfter20Hours() {
        OilWatch x = new OilWatch();
        for (int i = 0; i < 5; i++) {
            x.spill(50, 100000);
        }
        x.skimmer(50, 5000, 100000, 1);
        x.go(19);
        due("told(0, 1) at 19", x.told(0, 1), 95000);
        x.go(1);
        due("told(0, 1) at 20", x.told(0, 1), 100000);
        x.go(1);
        due("told(0, 1) at 21", x.told(0, 1), 100000);
    }

    static void skimmerWhereNothingIsTakesNothing() {
        OilWatch x = new OilWatch();
        x.spill(51, 30);
        x.skimmer(50, 10, 15, 1);
        x.go(1);
        due("told(0, 1)", x.told(0, 1), 0);
        due("oil(51)", x.oil(51), 30);
    }

    static void skimmersTakeAfterDriftAndLoss() {
        OilWatch x = new OilWatch();
        x.spill(50, 2000);
        x.skimmer(51, 5000, 5000, 1);
        x.skimmer(50, 5000, 5000, 1);
        x.weather(0, 0, EAST, 0);
        x.go(1);
        due("told(0, 1)", x.told(0, 1), 970);
        due("told(1, 1)", x.told(1, 1), 970);
        due("count(3)", x.count(3), 60);
    }

    // ---- "at most 4", "numbers as they come"

    static void skimmersHaveNumbersAsTheyCome() {
        OilWatch x = new OilWatch();
        due("skimmer", x.skimmer(95, 1, 1, 1), 0);
        x.skimmer(96, 1, 1, 1);
        due("skimmer: a refused one takes no number", x.skimmer(3, 1, 1, 1), 1);
        x.go(1);
        due("skimmer", x.skimmer(3, 1, 1, 1), 2);
        due("skimmer", x.skimmer(0, 1, 1, 1), 3);
        due("told(0, 0)", x.told(0, 0), 95);
        due("told(3, 0)", x.told(3, 0), 0);
    }

    // ---- "In an HOUR each can go once"

    static void skimmersGoOnceInAnHourEach() {
        OilWatch x = new OilWatch();
        x.skimmer(50, 1, 1, 1);
        x.skimmer(50, 1, 1, 1);
        due("sail(0, 51)", x.sail(0, 51), true);
        due("told(1, 3): the other one didn't", x.told(1, 3), 0);
        due("sail(1, 51)", x.sail(1, 51), true);
        due("sail(0, 52)", x.sail(0, 52), false);
        due("sail(1, 52)", x.sail(1, 52), false);
        x.go(1);
        due("told(0, 3)", x.told(0, 3), 0);
        due("sail(0, 52)", x.sail(0, 52), true);
        due("sail(1, 52)", x.sail(1, 52), true);
    }

    static void skimmerThatWasRefusedCanStillGo() {
        OilWatch x = new OilWatch();
        x.skimmer(50, 1, 1, 1);
        due("sail(0, 52)", x.sail(0, 52), false);
        due("told(0, 3)", x.told(0, 3), 0);
        due("sail(0, 51)", x.sail(0, 51), true);
        due("told(0, 3)", x.told(0, 3), 1);
    }

    /** No hour ends at 500, so that what went in it went for good. */
    static void skimmerThatWentAt500CantGoAgain() {
        OilWatch x = goneFor(500);
        x.skimmer(50, 1, 1, 1);
        due("sail(0, 51)", x.sail(0, 51), true);
        x.go(1);
        due("told(0, 3)", x.told(0, 3), 1);
        due("sail(0, 52)", x.sail(0, 52), false);
    }

    // ---- "by up to SPEED (1 .. 3) CELLS side by side": none is up to it too

    static void skimmerCanGoByNoCells() {
        OilWatch x = new OilWatch();
        x.skimmer(50, 1, 1, 1);
        due("sail(0, 50)", x.sail(0, 50), true);
        due("told(0, 0)", x.told(0, 0), 50);
        due("told(0, 3)", x.told(0, 3), 1);
    }

    // ---- "if there is a way over sea CELLS of that length at most"

    static void skimmerGoesAroundAShoreIfNoLonger() {
        OilWatch x = new OilWatch();
        x.shore(51, 1);
        x.skimmer(50, 1, 1, 2);
        due("sail(0, 63): by 62", x.sail(0, 63), true);
        OilWatch y = new OilWatch();
        y.shore(62, 1);
        y.skimmer(50, 1, 1, 2);
        due("sail(0, 63): by 51", y.sail(0, 63), true);
        OilWatch z = new OilWatch();
        z.shore(62, 1);
        z.shore(51, 1);
        z.skimmer(50, 1, 1, 3);
        due("sail(0, 63): neither", z.sail(0, 63), false);
        due("sail(0, 64): neither", z.sail(0, 64), false);
        due("sail(0, 75): neither", z.sail(0, 75), false);
        due("sail(0, 40): by 38 and 39", z.sail(0, 40), true);
    }

    static void skimmerGoesByABentWayOfThree() {
        OilWatch x = new OilWatch();
        x.shore(51, 1);
        x.shore(74, 1);
        x.shore(64, 1);
        x.skimmer(50, 1, 1, 3);
        due("sail(0, 75): by 62 and 63 only", x.sail(0, 75), true);
        OilWatch y = new OilWatch();
        y.shore(51, 1);
        y.shore(74, 1);
        y.shore(63, 1);
        y.skimmer(50, 1, 1, 3);
        due("sail(0, 75)", y.sail(0, 75), false);
    }

    // ---- "EMPTIED has it ROOM again (what it had is in a depot)"

    static void emptiedHasItRoomAgain() {
        OilWatch x = new OilWatch();
        x.spill(50, 33);
        x.skimmer(50, 10, 10, 1);
        due("empty(0): nothing yet", x.empty(0), 0);
        x.go(2);
        due("told(0, 1): full", x.told(0, 1), 10);
        due("empty(0)", x.empty(0), 10);
        due("empty(0): it has nothing more", x.empty(0), 0);
        due("told(0, 2): ever", x.told(0, 2), 10);
        x.go(1);
        due("told(0, 1)", x.told(0, 1), 10);
        due("told(0, 2)", x.told(0, 2), 20);
        due("count(6)", x.count(6), 20);
    }

    // ---- promise 10: "n HOURS go (0 .. 48; up to 500)"

    static void goOfNoHoursChangesNothing() {
        OilWatch x = new OilWatch();
        x.spill(50, 1000);
        x.skimmer(50, 10, 10, 1);
        x.sail(0, 51);
        x.weather(0, 0, EAST, 0);
        due("go(0)", x.go(0), 0);
        due("oil(50)", x.oil(50), 1000);
        due("told(0, 3)", x.told(0, 3), 1);
        due("count(8)", x.count(8), 0);
    }

    static void goOf48HoursIs48TimesOne() {
        OilWatch x = new OilWatch();
        OilWatch y = new OilWatch();
        x.spill(50, 100000);
        y.spill(50, 100000);
        x.skimmer(51, 100, 2000, 1);
        y.skimmer(51, 100, 2000, 1);
        for (int hour = 0; hour < 48; hour++) {
            x.weather(0, hour, 1 + hour % 4, 0);
            y.weather(0, hour, 1 + hour % 4, 0);
        }
        due("go(48)", x.go(48), 48);
        for (int hour = 1; hour <= 48; hour++) {
            due("go(1)", y.go(1), hour);
        }
        for (int cell = 0; cell < 96; cell++) {
            due("oil(" + cell + ")", x.oil(cell), y.oil(cell));
        }
        due("count(8)", x.count(8), y.count(8));
    }

    static void goStopsAt500() {
        OilWatch x = goneFor(498);
        x.spill(50, 1000);
        x.skimmer(0, 1, 1, 1);
        due("go(48)", x.go(48), 500);
        due("oil(50): two hours, 30 and 29 lost", x.oil(50), 941);
        due("count(8): two hours of a skimmer", x.count(8), 100);
    }

    static void goAt500ChangesNothing() {
        OilWatch x = goneFor(500);
        x.spill(50, 1000);
        x.skimmer(50, 1, 1, 1);
        x.sail(0, 51);
        x.weather(0, 500, EAST, 0);
        due("go(48)", x.go(48), 500);
        due("oil(50)", x.oil(50), 1000);
        due("count(8)", x.count(8), 0);
        due("told(0, 3)", x.told(0, 3), 1);
    }

    // ---- "HARM of what is ASHORE: liters times RANK of the SHORE, all together, by 1000 (cut)."

    static void harmIsCut() {
        OilWatch x = new OilWatch();
        x.shore(51, 1);
        x.spill(50, 1998);
        x.weather(0, 0, EAST, 0);
        x.go(1);
        due("oil(51)", x.oil(51), 999);
        due("count(7)", x.count(7), 0);
        OilWatch y = new OilWatch();
        y.shore(51, 1);
        y.spill(50, 2000);
        y.weather(0, 0, EAST, 0);
        y.go(1);
        due("oil(51)", y.oil(51), 1000);
        due("count(7)", y.count(7), 1);
    }

    static void harmIsCutOfAllTogether() {
        OilWatch x = new OilWatch();
        x.shore(51, 1);
        x.shore(71, 2);
        x.spill(50, 1000);
        x.spill(70, 500);
        x.weather(0, 0, EAST, 0);
        x.go(1);
        due("oil(51)", x.oil(51), 500);
        due("oil(71)", x.oil(71), 250);
        due("count(7): 500 and 500", x.count(7), 1);
        due("count(4)", x.count(4), 750);
    }

    static void harmGoesByEachRank() {
        for (int rank = 1; rank <= 9; rank++) {
            OilWatch x = new OilWatch();
            x.shore(51, rank);
            x.spill(50, 2000);
            x.weather(0, 0, EAST, 0);
            x.go(1);
            due("count(7) of rank " + rank, x.count(7), rank);
        }
    }

    static void harmGoesByTheRankToldLast() {
        OilWatch x = new OilWatch();
        x.shore(51, 9);
        x.shore(51, 2);
        x.spill(50, 2000);
        x.weather(0, 0, EAST, 0);
        x.go(1);
        due("count(7)", x.count(7), 2);
    }

    static void harmIsNoneOfOilAfloat() {
        OilWatch x = new OilWatch();
        x.shore(51, 9);
        x.spill(50, 100000);
        x.go(1);
        due("count(7)", x.count(7), 0);
        due("count(4)", x.count(4), 0);
    }

    // ---- promise 2: "or sea again: RANK 0"

    static void shoreThatIsSeaAgainIsSeaForAll() {
        OilWatch x = new OilWatch();
        x.shore(51, 9);
        due("shore(51, 0)", x.shore(51, 0), true);
        due("boom(51, 52, 9)", x.boom(51, 52, 9), 0);
        due("skimmer(51, 1, 1, 1)", x.skimmer(51, 1, 1, 1), 0);
        due("ship(1, 51, 0)", x.ship(1, 51, 0), 0);
        due("could(0, 51)", x.could(0, 51), true);
        due("spill(51, 20)", x.spill(51, 20), 20);
        x.weather(0, 0, WEST, 0);
        x.go(1);
        due("oil(50): it drifts on", x.oil(50), 10);
        due("count(4)", x.count(4), 0);
    }

    // ---- promise 6: "the OIL in that CELL"

    static void spillAnswersAllThatIsInTheCell() {
        OilWatch x = new OilWatch();
        due("spill(50, 100000)", x.spill(50, 100000), 100000);
        due("spill(50, 1)", x.spill(50, 1), 100001);
        due("spill(51, 1)", x.spill(51, 1), 1);
        x.go(1);
        due("spill(50, 1): 3000 were lost", x.spill(50, 1), 97002);
        due("count(1)", x.count(1), 100003);
    }

    static void spillAt500IsTaken() {
        OilWatch x = goneFor(500);
        due("spill(50, 7)", x.spill(50, 7), 7);
    }

    // ---- nothing is made or forgotten

    static void allThatWasSpilledIsSomewhere() {
        OilWatch x = new OilWatch();
        x.shore(40, 3);
        x.boom(52, 53, 4);
        x.skimmer(51, 33, 500, 1);
        for (int cell = 0; cell < 96; cell++) {
            x.spill(cell, 1000 + 7 * cell);
        }
        for (int hour = 0; hour < 40; hour++) {
            x.weather(0, hour, (hour * 7) % 5, hour % 10);
        }
        for (int i = 0; i < 40; i++) {
            x.go(1);
            long sum = x.count(2) + x.count(3) + x.count(4) + x.count(5) + x.count(6);
            due("all together at " + x.count(0), sum, x.count(1));
        }
    }
}
