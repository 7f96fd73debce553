import java.util.ArrayList;
import java.util.List;

/** States in which calls are tried, and all that can be seen of a state; both within 512 calls. */
final class Scenes {
    private Scenes() {
    }

    /** NOW is 0; shores 15, 27, 40; skimmer 1 went in this hour; boom 1 is lifted again; skimmers 2, ships 2. */
    static OilWatch start() {
        OilWatch x = new OilWatch();
        x.shore(15, 4);
        x.shore(27, 9);
        x.shore(40, 1);
        x.spill(14, 2000);
        x.spill(50, 30000);
        x.skimmer(50, 100, 150, 1);
        x.skimmer(62, 500, 1000, 2);
        x.sail(1, 63);
        x.boom(50, 51, 5);
        x.boom(51, 52, 3);
        x.boom(62, 74, 0);
        x.lift(1);
        x.ship(123456, 50, 0);
        x.ship(123500, 14, 0);
        x.weather(0, 0, 2, 3);
        x.weather(0, 1, 2, 5);
        x.weather(0, 2, 3, 9);
        x.weather(0, 4, 2, 1);
        x.weather(1, 0, 4, 1);
        x.weather(1, 4, 4, 1);
        x.weather(2, 0, 1, 2);
        x.part(0, 1);
        x.part(1, 2);
        x.part(3, 5);
        return x;
    }

    /** NOW is 3; skimmer 1 went in this hour. */
    static OilWatch underWay() {
        OilWatch x = start();
        x.go(3);
        x.sail(1, 62);
        x.empty(0);
        return x;
    }

    /** NOW is 500. */
    static OilWatch lastHour() {
        OilWatch x = underWay();
        for (int i = 0; i < 11; i++) {
            x.go(48);
        }
        x.weather(0, 500, 4, 2);
        return x;
    }

    /** 20 booms, 1000000 liters spilled, 4 skimmers, 8 ships; NOW is 0. */
    static OilWatch full() {
        OilWatch x = new OilWatch();
        x.shore(40, 9);
        for (int i = 0; i < 10; i++) {
            x.boom(i, i + 1, i);
            x.boom(84 + i, 85 + i, i);
            x.spill(41 + i % 3, 100000);
        }
        for (int i = 0; i < 4; i++) {
            x.skimmer(41 + i, 5000, 100000, 3);
            x.part(i, 10 * i);
        }
        for (int i = 0; i < 8; i++) {
            x.ship(111111 * i, 50 + i, 0);
        }
        x.weather(0, 0, 4, 9);
        x.weather(0, 1, 4, 9);
        return x;
    }

    /** The answers to every kind of question, then to one call of every other kind, then to questions again. */
    static List<Long> allThatCanBeSeen(OilWatch x) {
        List<Long> seen = new ArrayList<>();
        seeOil(x, seen);
        seeSkimmers(x, seen);
        seeLookouts(x, seen);
        seeShips(x, seen);
        seeChanges(x, seen);
        seeOil(x, seen);
        return seen;
    }

    private static void seeOil(OilWatch x, List<Long> seen) {
        for (int what = 0; what <= 10; what++) {
            seen.add((long) x.count(what));
        }
        for (int cell = 0; cell < 96; cell++) {
            seen.add((long) x.oil(cell));
        }
        for (int party = 0; party < 4; party++) {
            seen.add((long) x.bill(party));
        }
    }

    private static void seeSkimmers(OilWatch x, List<Long> seen) {
        for (int skimmer = 0; skimmer < 4; skimmer++) {
            for (int what = 0; what < 4; what++) {
                seen.add((long) x.told(skimmer, what));
            }
            seen.add((long) x.best(skimmer, 2, 0));
            seen.add((long) x.best(skimmer, 2, 1));
        }
    }

    private static void seeLookouts(OilWatch x, List<Long> seen) {
        for (int world = 0; world < 3; world++) {
            seen.add((long) x.foretold(world, 1));
            seen.add((long) x.foretold(world, 48));
        }
        seen.add((long) x.worst(2));
    }

    private static void seeShips(OilWatch x, List<Long> seen) {
        int[] cells = {13, 14, 26, 50, 51, 62};
        for (int cell : cells) {
            for (int ship = 0; ship < 8; ship++) {
                seen.add(x.could(ship, cell) ? 1L : 0L);
            }
            seen.add((long) x.sample(cell, 123456));
        }
    }

    private static void seeChanges(OilWatch x, List<Long> seen) {
        seen.add(x.shore(95, 3) ? 1L : 0L);
        seen.add(x.shore(40, 5) ? 1L : 0L);
        seen.add((long) x.boom(80, 81, 1));
        seen.add((long) x.boom(81, 82, 1));
        seen.add((long) x.spill(81, 7));
        seen.add((long) x.skimmer(81, 3, 3, 1));
        seen.add((long) x.ship(7, 81, 0));
        for (int skimmer = 0; skimmer < 4; skimmer++) {
            seen.add(x.sail(skimmer, 50) ? 1L : 0L);
            seen.add((long) x.empty(skimmer));
        }
        seen.add((long) x.go(2));
        for (int boom = 0; boom < 20; boom++) {
            seen.add(x.lift(boom) ? 1L : 0L);
        }
    }
}
