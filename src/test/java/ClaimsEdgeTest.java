/**
 * The edges of ships, samples, parts and bills, and of what is told and counted: a test of its own for each sentence,
 * with the sentence above it; values worked out by hand.
 */
public final class ClaimsEdgeTest {
    private static final Checks CHECKS = new Checks("ClaimsEdgeTest");
    private static final int NONE = -1;
    private static final int DOUBT = -2;
    private static final int NORTH = 1;
    private static final int EAST = 2;
    private static final int SOUTH = 3;
    private static final int WEST = 4;

    public static void main(String[] args) throws ReflectiveOperationException {
        CHECKS.runEachTestOf(ClaimsEdgeTest.class);
        CHECKS.finish();
    }

    private static void due(String call, long got, long want) {
        CHECKS.due(call, got, want);
    }

    private static void due(String call, boolean got, boolean want) {
        CHECKS.due(call, got, want);
    }

    private static void dueCould(OilWatch x, int ship, int... cells) {
        for (int cell = 0; cell < 96; cell++) {
            boolean isOne = false;
            for (int one : cells) {
                isOne |= one == cell;
            }
            due("could(" + ship + ", " + cell + ")", x.could(ship, cell), isOne);
        }
    }

    // ---- "SHIPS have numbers as they come, at most 8"

    static void shipsHaveNumbersAsTheyCome() {
        OilWatch x = new OilWatch();
        due("ship", x.ship(5, 50, 0), 0);
        x.ship(5, 50, 1);
        x.ship(-1, 50, 0);
        due("ship: a refused one takes no number", x.ship(5, 50, 0), 1);
        for (int i = 2; i < 8; i++) {
            due("ship", x.ship(5, 50, 0), i);
        }
        due("ship", x.ship(5, 50, 0), NONE);
        due("count(10)", x.count(10), 8);
    }

    // ---- "an HOUR (0 .. NOW)"

    static void shipOfNowCouldOnlyBeWhereItWas() {
        OilWatch x = new OilWatch();
        x.weather(0, 0, EAST, 0);
        x.weather(0, 1, EAST, 0);
        x.ship(5, 50, 0);
        dueCould(x, 0, 50);
        x.go(1);
        x.ship(5, 50, 1);
        dueCould(x, 1, 50);
    }

    static void shipOfHour0HasDriftedFromHour0On() {
        OilWatch x = new OilWatch();
        x.weather(0, 0, EAST, 0);
        x.weather(0, 1, SOUTH, 0);
        x.go(2);
        x.ship(5, 50, 0);
        x.ship(5, 50, 1);
        x.ship(5, 50, 2);
        dueCould(x, 0, 50, 51, 62, 63);
        dueCould(x, 1, 50, 62);
        dueCould(x, 2, 50);
    }

    static void shipAt500() {
        OilWatch x = new OilWatch();
        for (int i = 0; i < 11; i++) {
            x.go(48);
        }
        due("ship(5, 50, 500)", x.ship(5, 50, 500), 0);
        due("ship(5, 50, 0)", x.ship(5, 50, 0), 1);
        x.weather(0, 500, EAST, 0);
        x.go(1);
        due("could(0, 51): no hour went", x.could(0, 51), false);
        due("could(1, 50)", x.could(1, 50), true);
    }

    // ---- "each HOUR it stays, or drifts as told"

    static void couldGoesOneCellAnHour() {
        OilWatch x = new OilWatch();
        x.ship(5, 48, 0);
        for (int hour = 0; hour < 3; hour++) {
            x.weather(0, hour, EAST, 0);
        }
        x.go(1);
        dueCould(x, 0, 48, 49);
        x.go(1);
        dueCould(x, 0, 48, 49, 50);
        x.go(1);
        dueCould(x, 0, 48, 49, 50, 51);
    }

    static void couldWithoutAWayIsWhereItWas() {
        OilWatch x = new OilWatch();
        x.ship(5, 50, 0);
        x.weather(0, 0, 0, 9);
        x.go(3);
        dueCould(x, 0, 50);
    }

    static void couldGoesByTheTrueWorldOnly() {
        OilWatch x = new OilWatch();
        x.ship(5, 50, 0);
        x.weather(1, 0, EAST, 0);
        x.weather(2, 0, WEST, 0);
        x.go(1);
        dueCould(x, 0, 50);
    }

    static void couldDriftsBothThereAndBack() {
        OilWatch x = new OilWatch();
        x.ship(5, 50, 0);
        x.weather(0, 0, EAST, 0);
        x.weather(0, 1, WEST, 0);
        x.go(2);
        dueCould(x, 0, 49, 50, 51);
    }

    static void couldNeedsNoOil() {
        OilWatch x = new OilWatch();
        x.ship(5, 50, 0);
        x.go(1);
        due("oil(50)", x.oil(50), 0);
        due("could(0, 50)", x.could(0, 50), true);
    }

    // ---- "(BOOMS don't matter; not over a SHORE)"

    static void couldPassesBooms() {
        OilWatch x = new OilWatch();
        x.boom(50, 51, 9);
        x.ship(5, 50, 0);
        x.weather(0, 0, EAST, 0);
        x.go(1);
        dueCould(x, 0, 50, 51);
    }

    static void couldGoesNotOverAShore() {
        OilWatch x = new OilWatch();
        x.shore(51, 1);
        x.ship(5, 50, 0);
        for (int hour = 0; hour < 4; hour++) {
            x.weather(0, hour, EAST, 0);
        }
        x.go(4);
        dueCould(x, 0, 50);
    }

    static void couldGoesAroundAShore() {
        OilWatch x = new OilWatch();
        x.shore(51, 1);
        x.ship(5, 50, 0);
        x.weather(0, 0, SOUTH, 0);
        x.weather(0, 1, EAST, 0);
        x.weather(0, 2, NORTH, 0);
        x.go(3);
        dueCould(x, 0, 50, 62, 63, 38);
    }

    // ---- "could be in that CELL NOW": what has left the net is nowhere

    static void couldEndsAtTheNetsEdges() {
        int[] cells = {0, 11, 84, 95};
        int[][] ways = {{NORTH, WEST}, {NORTH, EAST}, {SOUTH, WEST}, {SOUTH, EAST}};
        for (int i = 0; i < 4; i++) {
            OilWatch x = new OilWatch();
            x.ship(5, cells[i], 0);
            x.weather(0, 0, ways[i][0], 0);
            x.weather(0, 1, ways[i][1], 0);
            x.go(2);
            dueCould(x, 0, cells[i]);
        }
    }

    static void couldKnowsNoNextRowAtARowsEnd() {
        OilWatch x = new OilWatch();
        x.ship(5, 23, 0);
        x.ship(5, 24, 0);
        x.weather(0, 0, EAST, 0);
        x.weather(0, 1, WEST, 0);
        x.go(1);
        dueCould(x, 0, 23);
        dueCould(x, 1, 24, 25);
        x.go(1);
        dueCould(x, 0, 22, 23);
        dueCould(x, 1, 24, 25);
    }

    // ---- "from whose MARK it differs least (the sum of squares of what digits differ)"

    static void sampleGoesBySquares() {
        OilWatch x = new OilWatch();
        x.ship(0, 50, 0);
        x.ship(300003, 50, 0);
        due("sample(50, 2): 4, or 9 and 1", x.sample(50, 2), 0);
        x.ship(111111, 50, 0);
        due("sample(50, 300000): 9, 9, or 4 and five 1", x.sample(50, 300000), DOUBT);
        OilWatch y = new OilWatch();
        y.ship(4, 50, 0);
        y.ship(111110, 50, 0);
        due("sample(50, 0): 16, or five 1 (a sum of digits is 4 or 5)", y.sample(50, 0), 1);
    }

    static void sampleTakesEachDigitByItself() {
        OilWatch x = new OilWatch();
        x.ship(199999, 50, 0);
        x.ship(211111, 50, 0);
        due("sample(50, 200000): five 1, though 199999 is the next number", x.sample(50, 200000), 1);
        OilWatch y = new OilWatch();
        y.ship(9, 50, 0);
        y.ship(4, 50, 0);
        due("sample(50, 0): 0 is far from 9", y.sample(50, 0), 1);
    }

    static void sampleKnowsZerosAhead() {
        OilWatch x = new OilWatch();
        x.ship(5, 50, 0);
        x.ship(500000, 50, 0);
        due("sample(50, 5)", x.sample(50, 5), 0);
        due("sample(50, 500000)", x.sample(50, 500000), 1);
        due("sample(50, 0): 25 each", x.sample(50, 0), DOUBT);
    }

    static void sampleCountsEachOfSixDigits() {
        for (int place = 1; place <= 100000; place *= 10) {
            OilWatch x = new OilWatch();
            x.ship(0, 50, 0);
            x.ship(3 * place, 50, 0);
            due("sample(50, 0)", x.sample(50, 0), 0);
            due("sample(50, " + 3 * place + ")", x.sample(50, 3 * place), 1);
        }
    }

    static void sampleOfTheFarthestMark() {
        OilWatch x = new OilWatch();
        x.ship(0, 50, 0);
        due("sample(50, 999999)", x.sample(50, 999999), 0);
        x.ship(999999, 50, 0);
        due("sample(50, 999999)", x.sample(50, 999999), 1);
        due("sample(50, 0)", x.sample(50, 0), 0);
    }

    // ---- "of those that COULD"

    static void sampleIsOfThoseThatCouldOnly() {
        OilWatch x = new OilWatch();
        x.ship(123456, 20, 0);
        x.ship(999999, 50, 0);
        x.ship(123456, 51, 0);
        due("sample(50, 123456): the like ones couldn't", x.sample(50, 123456), 1);
        x.weather(0, 0, WEST, 0);
        x.go(1);
        due("sample(50, 123456): one could now", x.sample(50, 123456), 2);
        due("sample(49, 123456)", x.sample(49, 123456), 1);
    }

    // ---- "in DOUBT, if another one's sum is less than 5 more"

    static void sampleOf4MoreIsInDoubt() {
        for (int order = 0; order < 2; order++) {
            OilWatch x = new OilWatch();
            x.ship(order == 0 ? 0 : 2, 50, 0);
            x.ship(order == 0 ? 2 : 0, 50, 0);
            due("sample(50, 0): 0 and 4", x.sample(50, 0), DOUBT);
        }
    }

    static void sampleOf5MoreIsInNoDoubt() {
        for (int order = 0; order < 2; order++) {
            OilWatch x = new OilWatch();
            x.ship(order == 0 ? 0 : 12, 50, 0);
            x.ship(order == 0 ? 12 : 0, 50, 0);
            due("sample(50, 0): 0 and 5", x.sample(50, 0), order);
        }
    }

    static void sampleOfLikeMarksIsInDoubt() {
        OilWatch x = new OilWatch();
        x.ship(123456, 50, 0);
        x.ship(123456, 50, 0);
        due("sample(50, 123456)", x.sample(50, 123456), DOUBT);
        due("sample(50, 999999)", x.sample(50, 999999), DOUBT);
    }

    static void sampleIsInDoubtByAnyOther() {
        OilWatch x = new OilWatch();
        x.ship(999999, 50, 0);
        x.ship(0, 50, 0);
        x.ship(888888, 50, 0);
        due("sample(50, 0)", x.sample(50, 0), 1);
        x.ship(1, 50, 0);
        due("sample(50, 0): the last is too near", x.sample(50, 0), DOUBT);
        due("sample(50, 999999): 0 and 6", x.sample(50, 999999), 0);
    }

    static void sampleOfOneAloneIsInNoDoubt() {
        OilWatch x = new OilWatch();
        x.ship(0, 50, 0);
        x.ship(0, 20, 0);
        due("sample(50, 1): the like one couldn't", x.sample(50, 1), 0);
    }

    static void sampleOfEightShips() {
        OilWatch x = new OilWatch();
        for (int i = 0; i < 8; i++) {
            x.ship(111111 * i, 50, 0);
        }
        for (int i = 0; i < 8; i++) {
            due("sample(50, " + 111111 * i + ")", x.sample(50, 111111 * i), i);
        }
    }

    // ---- "PARTIES 0 .. 3 have PARTS (0 .. 100)."

    static void partsAre0AtFirst() {
        OilWatch x = new OilWatch();
        x.skimmer(0, 1, 1, 1);
        x.go(1);
        for (int party = 0; party < 4; party++) {
            due("bill(" + party + ")", x.bill(party), 0);
        }
        x.part(3, 1);
        due("bill(3): all of it", x.bill(3), 50);
    }

    static void partsOf100Each() {
        OilWatch x = new OilWatch();
        x.skimmer(0, 1, 1, 1);
        x.go(2);
        dueShares(x, new int[] {100, 100, 100, 100}, new int[] {25, 25, 25, 25});
    }

    static void partsToldAgainAreInPlaceOfWhatWas() {
        OilWatch x = new OilWatch();
        x.skimmer(0, 1, 1, 1);
        x.go(2);
        x.part(0, 100);
        x.part(0, 1);
        x.part(1, 1);
        due("bill(0)", x.bill(0), 50);
        x.part(0, 0);
        due("bill(0)", x.bill(0), 0);
        due("bill(1)", x.bill(1), 100);
    }

    private static void dueShares(OilWatch x, int[] parts, int[] shares) {
        for (int party = 0; party < 4; party++) {
            due("part(" + party + ", " + parts[party] + ")", x.part(party, parts[party]), true);
        }
        for (int party = 0; party < 4; party++) {
            due("bill(" + party + ") of " + java.util.Arrays.toString(parts), x.bill(party), shares[party]);
        }
    }

    // ---- "each liter SKIMMED costs 2, each HOUR of a SKIMMER 50, HARM 10 each"

    static void billOfANewObjectIs0() {
        OilWatch x = new OilWatch();
        due("count(8)", x.count(8), 0);
        dueShares(x, new int[] {1, 2, 3, 4}, new int[] {0, 0, 0, 0});
    }

    static void billCounts2EachLiterThoughEmptied() {
        OilWatch x = new OilWatch();
        x.spill(50, 30);
        x.skimmer(50, 10, 10, 1);
        x.go(1);
        due("count(8)", x.count(8), 2 * 10 + 50);
        x.empty(0);
        due("count(8)", x.count(8), 2 * 10 + 50);
        x.go(1);
        due("count(8)", x.count(8), 2 * 20 + 100);
    }

    static void billCounts50EachHourFromWhenASkimmerCame() {
        OilWatch x = new OilWatch();
        x.go(5);
        due("count(8) without skimmers", x.count(8), 0);
        x.skimmer(0, 1, 0, 1);
        due("count(8): no hour went", x.count(8), 0);
        x.go(1);
        due("count(8)", x.count(8), 50);
        x.skimmer(0, 1, 0, 1);
        x.sail(1, 1);
        x.go(3);
        due("count(8)", x.count(8), 50 * 4 + 50 * 3);
    }

    static void billCounts10EachHarm() {
        OilWatch x = new OilWatch();
        x.shore(51, 9);
        x.spill(50, 444);
        x.weather(0, 0, EAST, 0);
        x.go(1);
        due("count(7): 222 times 9", x.count(7), 1);
        due("count(8): harm cut, then 10 each", x.count(8), 10);
    }

    static void billIsAsItIsNow() {
        OilWatch x = new OilWatch();
        x.skimmer(0, 1, 0, 1);
        x.part(1, 3);
        due("bill(1)", x.bill(1), 0);
        x.go(1);
        due("bill(1)", x.bill(1), 50);
        x.go(47);
        due("bill(1)", x.bill(1), 2400);
    }

    // ---- "(cut), one more each of those of which most was cut off (of like ones the lesser number)"

    static void billOneMoreForTheMostCutOff() {
        OilWatch x = new OilWatch();
        x.skimmer(0, 1, 0, 1);
        x.go(1);
        // 7.14, 14.28, 28.57
        dueShares(x, new int[] {1, 2, 4, 0}, new int[] {7, 14, 29, 0});
        // 28.57, 14.28, 7.14
        dueShares(x, new int[] {4, 2, 1, 0}, new int[] {29, 14, 7, 0});
        // 0.490, 0.490, 49.019
        dueShares(x, new int[] {1, 1, 100, 0}, new int[] {1, 0, 49, 0});
    }

    static void billOneMoreForTheLesserNumberOfLikeOnes() {
        OilWatch x = new OilWatch();
        x.skimmer(0, 1, 0, 1);
        x.go(1);
        dueShares(x, new int[] {1, 1, 1, 0}, new int[] {17, 17, 16, 0});
        dueShares(x, new int[] {1, 0, 1, 1}, new int[] {17, 0, 17, 16});
        dueShares(x, new int[] {0, 1, 1, 1}, new int[] {0, 17, 17, 16});
        dueShares(x, new int[] {1, 1, 1, 1}, new int[] {13, 13, 12, 12});
    }

    static void billOneMoreForThreeOfFour() {
        OilWatch x = new OilWatch();
        x.skimmer(0, 1, 0, 1);
        x.go(1);
        // 12.82, 12.82, 12.82, 11.53: 47, three are left
        dueShares(x, new int[] {10, 10, 10, 9}, new int[] {13, 13, 13, 11});
        // 11.53, 12.82, 12.82, 12.82
        dueShares(x, new int[] {9, 10, 10, 10}, new int[] {11, 13, 13, 13});
    }

    static void billOneMoreForNobodyIfNothingIsCutOff() {
        OilWatch x = new OilWatch();
        x.skimmer(0, 1, 0, 1);
        x.go(1);
        dueShares(x, new int[] {1, 2, 3, 4}, new int[] {5, 10, 15, 20});
        dueShares(x, new int[] {0, 0, 50, 0}, new int[] {0, 0, 50, 0});
    }

    static void billSharesAreTheWholeTogether() {
        OilWatch x = new OilWatch();
        x.skimmer(0, 1, 0, 1);
        x.go(7);
        for (int i = 0; i < 50; i++) {
            int sum = 0;
            for (int party = 0; party < 4; party++) {
                x.part(party, (i * 37 + party * 29 + i * party) % 101);
            }
            for (int party = 0; party < 4; party++) {
                sum += x.bill(party);
            }
            due("all shares at " + i, sum, 350);
        }
    }

    static void billOfTheGreatestSums() {
        OilWatch x = new OilWatch();
        for (int i = 0; i < 4; i++) {
            x.skimmer(50, 5000, 100000, 1);
        }
        for (int i = 0; i < 10; i++) {
            x.spill(50, 100000);
        }
        for (int i = 0; i < 12; i++) {
            x.go(20);
            for (int skimmer = 0; skimmer < 4; skimmer++) {
                x.empty(skimmer);
            }
        }
        int whole = x.count(8);
        due("count(8)", whole, 2 * x.count(6) + 50 * 4 * 240);
        due("it is far above a million", whole > 1300000, true);
        dueShares(x, new int[] {100, 0, 0, 0}, new int[] {whole, 0, 0, 0});
        dueShares(x, new int[] {0, 100, 0, 100}, new int[] {0, whole - whole / 2, 0, whole / 2});
    }

    // ---- "nothing, if all are 0"

    static void billIsNothingIfAllPartsAre0() {
        OilWatch x = new OilWatch();
        x.skimmer(0, 1, 0, 1);
        x.go(1);
        dueShares(x, new int[] {5, 0, 0, 0}, new int[] {50, 0, 0, 0});
        dueShares(x, new int[] {0, 0, 0, 0}, new int[] {0, 0, 0, 0});
        due("count(8): there is a bill", x.count(8), 50);
    }

    // ---- promise 20: "0 its CELL, 1 liters that it has, 2 ever, 3 whether it went in this HOUR"

    static void toldOfANewSkimmer() {
        OilWatch x = new OilWatch();
        x.skimmer(95, 1, 1, 1);
        int[] want = {95, 0, 0, 0};
        for (int what = 0; what < 4; what++) {
            due("told(0, " + what + ")", x.told(0, what), want[what]);
        }
    }

    static void toldOfOneThatWentAndWasEmptied() {
        OilWatch x = new OilWatch();
        x.spill(50, 30);
        x.skimmer(50, 10, 10, 1);
        x.go(1);
        x.empty(0);
        x.sail(0, 51);
        int[] want = {51, 0, 10, 1};
        for (int what = 0; what < 4; what++) {
            due("told(0, " + what + ")", x.told(0, what), want[what]);
        }
    }

    // ---- promise 21: "0 NOW, 1 SPILLED, 2 afloat, ... 10 SHIPS"

    static void countOfANewObjectIs0() {
        OilWatch x = new OilWatch();
        for (int what = 0; what <= 10; what++) {
            due("count(" + what + ")", x.count(what), 0);
        }
    }

    static void countEachByItself() {
        OilWatch x = new OilWatch();
        x.shore(51, 9);
        x.spill(50, 2000);
        x.spill(47, 200);
        x.skimmer(50, 70, 100, 1);
        x.boom(0, 1, 1);
        x.boom(1, 2, 1);
        x.lift(0);
        x.ship(1, 1, 0);
        x.ship(1, 1, 0);
        x.ship(1, 1, 0);
        x.weather(0, 0, EAST, 0);
        x.go(1);
        // 50: 1000 ashore, 30 lost, 70 skimmed, 900 left; 47: 100 away, 3 lost, 97 left
        int[] want = {1, 2200, 997, 33, 1000, 100, 70, 9, 140 + 50 + 90, 1, 3};
        for (int what = 0; what <= 10; what++) {
            due("count(" + what + ")", x.count(what), want[what]);
        }
    }

    static void countOfSkimmedIsEver() {
        OilWatch x = new OilWatch();
        x.spill(50, 30);
        x.skimmer(50, 10, 10, 1);
        x.skimmer(50, 5, 10, 1);
        x.go(1);
        x.empty(0);
        due("count(6)", x.count(6), 15);
        due("count(2)", x.count(2), 15);
    }
}
