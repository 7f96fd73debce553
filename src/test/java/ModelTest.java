import java.util.ArrayDeque;
import java.util.Random;

/** Runs of calls drawn by a fixed seed, each answer compared with the plain model's. */
public final class ModelTest {
    private static final int RUNS = 400;
    private static final int MOST_CALLS = 512;
    private static final int MOST_CALLS_OF_A_DRAW = 6;
    private static final int KINDS = 20;

    private final Checks checks;
    private final Random random;
    private final OilWatch watch = new OilWatch();
    private final PlainModel model = new PlainModel();
    private final ArrayDeque<String> latest = new ArrayDeque<>();
    private final int home;
    private final int longestGo;
    private final boolean beginsLate;
    private int calls;

    private ModelTest(Checks checks, int run) {
        this.checks = checks;
        random = new Random(run);
        home = random.nextInt(96);
        longestGo = run % 4 == 0 ? 48 : run % 4 == 1 ? 12 : 3;
        beginsLate = run % 8 == 5;
    }

    public static void main(String[] args) {
        Checks checks = new Checks("ModelTest");
        for (int run = 0; run < RUNS && !checks.hasWrong(); run++) {
            checks.at("run " + run);
            new ModelTest(checks, run).runCalls();
        }
        checks.finish();
    }

    /** What an object answers after 512 calls is free. */
    private void runCalls() {
        for (int i = 0; i < 40; i++) {
            callKind(i < 25 ? 0 : i < 30 ? 4 : random.nextInt(KINDS));
        }
        for (int i = 0; i < 10 && beginsLate; i++) {
            due("go(48)", watch.go(48), model.go(48));
        }
        while (calls + MOST_CALLS_OF_A_DRAW <= MOST_CALLS - 12 && !checks.hasWrong()) {
            callKind(random.nextInt(KINDS));
        }
        for (int what = 0; what <= 11; what++) {
            due("count(" + what + ")", watch.count(what), model.count(what));
        }
        if (checks.hasWrong()) {
            System.out.println("the calls before: " + latest);
        }
    }

    private void due(String call, long got, long want) {
        calls++;
        latest.add(call + " = " + want);
        checks.due(call, got, want);
    }

    private void due(String call, boolean got, boolean want) {
        due(call, got ? 1 : 0, want ? 1 : 0);
    }

    /** From least to most, and sometimes one beyond. */
    private int about(int least, int most) {
        return random.nextInt(25) == 0 ? (random.nextBoolean() ? least - 1 : most + 1)
            : least + random.nextInt(most - least + 1);
    }

    /** Mostly near one place, so that things meet. */
    private int cell() {
        if (random.nextInt(4) == 0) {
            return about(0, 95);
        }
        int row = Math.max(0, Math.min(7, home / 12 + random.nextInt(5) - 2));
        int column = Math.max(0, Math.min(11, home % 12 + random.nextInt(5) - 2));
        return row * 12 + column;
    }

    private int mark() {
        return random.nextInt(4) == 0 ? about(0, 999999) : 123000 + random.nextInt(3) * 10 + random.nextInt(3);
    }

    private void callKind(int kind) {
        if (kind < 10) {
            callChange(kind);
        } else {
            callQuestion(kind);
        }
    }

    private void callChange(int kind) {
        int a = cell();
        int b = cell();
        switch (kind) {
            case 0: {
                int rank = about(0, 9);
                due("shore(" + a + ", " + rank + ")", watch.shore(a, rank), model.shore(a, rank));
                break;
            }
            case 1:
            case 2:
                callWeather();
                break;
            case 3: {
                int limit = about(0, 9);
                int next = a + new int[] {1, -1, 12, -12, 0, 13}[random.nextInt(6)];
                due("boom(" + a + ", " + next + ", " + limit + ")", watch.boom(a, next, limit),
                    model.boom(a, next, limit));
                break;
            }
            case 4: {
                int liters = random.nextBoolean() ? about(1, 300) : about(1, 100000);
                due("spill(" + a + ", " + liters + ")", watch.spill(a, liters), model.spill(a, liters));
                break;
            }
            case 5:
                callSkimmer(a);
                break;
            case 6: {
                int number = about(0, 3);
                due("sail(" + number + ", " + b + ")", watch.sail(number, b), model.sail(number, b));
                break;
            }
            case 7: {
                int number = about(0, 3);
                due("empty(" + number + ")", watch.empty(number), model.empty(number));
                break;
            }
            case 8: {
                int n = random.nextInt(3) == 0 ? about(0, longestGo) : 1;
                due("go(" + n + ")", watch.go(n), model.go(n));
                break;
            }
            default: {
                int number = about(0, 19);
                if (random.nextInt(3) == 0) {
                    due("lift(" + number + ")", watch.lift(number), model.lift(number));
                }
                break;
            }
        }
    }

    private void callWeather() {
        int world = about(0, 2);
        int hour = Math.min(501, model.count(0) + (random.nextInt(4) == 0 ? about(0, 30) : about(0, 3)));
        int way = about(0, 4);
        int force = about(0, 9);
        due("weather(" + world + ", " + hour + ", " + way + ", " + force + ")",
            watch.weather(world, hour, way, force), model.weather(world, hour, way, force));
    }

    private void callSkimmer(int cell) {
        if (random.nextInt(4) != 0) {
            return;
        }
        int rate = random.nextBoolean() ? about(1, 200) : about(1, 5000);
        int room = random.nextBoolean() ? about(0, 1000) : about(0, 100000);
        int speed = about(1, 3);
        due("skimmer(" + cell + ", " + rate + ", " + room + ", " + speed + ")",
            watch.skimmer(cell, rate, room, speed), model.skimmer(cell, rate, room, speed));
    }

    private void callQuestion(int kind) {
        int a = cell();
        switch (kind) {
            case 10:
                due("oil(" + a + ")", watch.oil(a), model.oil(a));
                break;
            case 11: {
                int world = about(0, 2);
                int n = about(0, 48);
                due("foretold(" + world + ", " + n + ")", watch.foretold(world, n), model.foretold(world, n));
                break;
            }
            case 12: {
                int n = about(0, 48);
                due("worst(" + n + ")", watch.worst(n), model.worst(n));
                break;
            }
            case 13:
                callBest();
                break;
            case 14: {
                int hour = Math.max(0, model.count(0) - random.nextInt(20)) + random.nextInt(2);
                int mark = mark();
                if (random.nextInt(5) == 0) {
                    due("ship(" + mark + ", " + a + ", " + hour + ")", watch.ship(mark, a, hour),
                        model.ship(mark, a, hour));
                }
                break;
            }
            case 15: {
                int number = about(0, 7);
                due("could(" + number + ", " + a + ")", watch.could(number, a), model.could(number, a));
                break;
            }
            case 16: {
                int digits = mark();
                due("sample(" + a + ", " + digits + ")", watch.sample(a, digits), model.sample(a, digits));
                break;
            }
            case 17: {
                int party = about(0, 3);
                int parts = random.nextInt(3) == 0 ? 0 : about(0, 100);
                due("part(" + party + ", " + parts + ")", watch.part(party, parts), model.part(party, parts));
                break;
            }
            case 18:
                for (int party = -1; party <= 4; party++) {
                    due("bill(" + party + ")", watch.bill(party), model.bill(party));
                }
                break;
            default: {
                int number = about(0, 3);
                int what = about(0, 3);
                due("told(" + number + ", " + what + ")", watch.told(number, what), model.told(number, what));
                due("count(" + what * 3 + ")", watch.count(what * 3), model.count(what * 3));
                break;
            }
        }
    }

    /** The model walks every way, so three hours are asked for less often. */
    private void callBest() {
        int number = about(0, 3);
        int n = random.nextInt(12) == 0 ? 3 : about(1, 2);
        for (int what = 0; what <= 1; what++) {
            due("best(" + number + ", " + n + ", " + what + ")", watch.best(number, n, what),
                model.best(number, n, what));
        }
    }
}
