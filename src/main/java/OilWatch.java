/** A watch over oil on the sea; ../shared/DOC.md says what each call must do. */
public final class OilWatch {
    public static final int NONE = -1;

    private static final int DOUBT = -2;
    private static final int ROWS = 8;
    private static final int COLUMNS = 12;
    private static final int CELLS = ROWS * COLUMNS;
    private static final int TOP_RANK = 9;

    private static final int WORLDS = 3;
    private static final int TRUE_WORLD = 0;
    private static final int LAST_HOUR = 500;
    private static final int MOST_HOURS_AHEAD = 48;
    private static final int NO_WAY = 0;
    private static final int NORTH = 1;
    private static final int EAST = 2;
    private static final int SOUTH = 3;
    private static final int WEST = 4;
    private static final int WAYS = 5;
    private static final int TOP_FORCE = 9;

    private static final int MOST_BOOMS = 20;
    private static final int MOST_LITERS = 100000;
    private static final int MOST_SPILLED = 1000000;

    private static final int MOST_SKIMMERS = 4;
    private static final int TOP_RATE = 5000;
    private static final int TOP_ROOM = 100000;
    private static final int TOP_SPEED = 3;
    private static final int MOST_HOURS_OUT = 3;

    private static final int MOST_SHIPS = 8;
    private static final int MARK_DIGITS = 6;
    private static final int TOP_MARK = 999999;
    private static final int DOUBT_MARGIN = 5;

    private static final int PARTIES = 4;
    private static final int TOP_PARTS = 100;
    private static final int LITER_COST = 2;
    private static final int SKIMMER_HOUR_COST = 50;
    private static final int HARM_COST = 10;

    private final Net net;
    private final Booms booms;
    private final Sky sky;
    private final Fleet fleet;
    private final Slick sea;
    private final Slick[] trials;
    private final Outing outing;
    private final Ship[] ships;
    private final int[] partsOf;
    private int shipCount;
    private int now;
    private int spilled;
    private int firstSpillHour;
    private int skimmerHours;

    public OilWatch() {
        net = new Net();
        booms = new Booms();
        sky = new Sky();
        fleet = new Fleet();
        sea = new Slick();
        trials = new Slick[MOST_HOURS_OUT];
        for (int i = 0; i < MOST_HOURS_OUT; i++) {
            trials[i] = new Slick();
        }
        outing = new Outing();
        ships = new Ship[MOST_SHIPS];
        for (int i = 0; i < MOST_SHIPS; i++) {
            ships[i] = new Ship();
        }
        partsOf = new int[PARTIES];
    }

    public boolean shore(int cell, int rank) {
        if (!Net.isCell(cell) || !isWithin(rank, 0, TOP_RANK) || now != 0) {
            return false;
        }
        if (sea.liters[cell] > 0 || fleet.isAt(cell) || booms.endAt(cell) || shipLeftAt(cell)) {
            return false;
        }
        net.ranks[cell] = rank;
        return true;
    }

    public boolean weather(int world, int hour, int way, int force) {
        if (!isWithin(world, 0, WORLDS - 1) || !isWithin(hour, now, LAST_HOUR)
                || !isWithin(way, NO_WAY, WEST) || !isWithin(force, 0, TOP_FORCE)) {
            return false;
        }
        sky.tell(world, hour, way, force);
        return true;
    }

    public int boom(int a, int b, int limit) {
        if (!net.isSea(a) || !net.isSea(b) || !isWithin(limit, 0, TOP_FORCE)) {
            return NONE;
        }
        int way = Net.wayBeside(a, b);
        return way == NO_WAY ? NONE : booms.lay(a, way, limit);
    }

    public boolean lift(int boom) {
        return booms.takeUp(boom);
    }

    public int spill(int cell, int liters) {
        if (!net.isSea(cell) || !isWithin(liters, 1, MOST_LITERS) || spilled + liters > MOST_SPILLED) {
            return NONE;
        }
        if (spilled == 0) {
            firstSpillHour = now;
        }
        spilled += liters;
        sea.liters[cell] += liters;
        return sea.liters[cell];
    }

    public int skimmer(int cell, int rate, int room, int speed) {
        if (!net.isSea(cell) || !isWithin(rate, 1, TOP_RATE) || !isWithin(room, 0, TOP_ROOM)
                || !isWithin(speed, 1, TOP_SPEED)) {
            return NONE;
        }
        return fleet.add(cell, rate, room, speed);
    }

    public boolean sail(int skimmer, int cell) {
        if (!fleet.has(skimmer)) {
            return false;
        }
        Skimmer sailing = fleet.skimmers[skimmer];
        if (sailing.went || !isWayOverSea(net, sailing.cell, cell, sailing.speed)) {
            return false;
        }
        sailing.cell = cell;
        sailing.went = true;
        return true;
    }

    public int empty(int skimmer) {
        if (!fleet.has(skimmer)) {
            return NONE;
        }
        int load = sea.loads[skimmer];
        fleet.skimmers[skimmer].inDepot += load;
        sea.loads[skimmer] = 0;
        return load;
    }

    public int go(int n) {
        if (!isWithin(n, 0, MOST_HOURS_AHEAD)) {
            return NONE;
        }
        int end = Math.min(now + n, LAST_HOUR);
        while (now < end) {
            passHour(sea, TRUE_WORLD, now);
            for (int i = 0; i < shipCount; i++) {
                spreadPossible(ships[i], now);
            }
            skimmerHours += fleet.size;
            fleet.beginHour();
            now++;
        }
        return now;
    }

    public int oil(int cell) {
        return Net.isCell(cell) ? sea.liters[cell] : NONE;
    }

    public int foretold(int world, int n) {
        if (!isWithin(world, 0, WORLDS - 1) || !isWithin(n, 0, MOST_HOURS_AHEAD)) {
            return NONE;
        }
        return harmAhead(world, n);
    }

    public int worst(int n) {
        if (!isWithin(n, 0, MOST_HOURS_AHEAD)) {
            return NONE;
        }
        int greatest = 0;
        for (int world = 0; world < WORLDS; world++) {
            greatest = Math.max(greatest, harmAhead(world, n));
        }
        return greatest;
    }

    public int best(int skimmer, int n, int what) {
        if (!fleet.has(skimmer) || !isWithin(n, 1, MOST_HOURS_OUT) || !isWithin(what, 0, 1)) {
            return NONE;
        }
        if (fleet.skimmers[skimmer].went) {
            return NONE;
        }
        outing.begin(skimmer, n);
        trials[0].become(sea);
        searchHour(0, fleet.skimmers[skimmer].cell, 0);
        return what == 0 ? outing.most : outing.firstOfMost;
    }

    public int ship(int mark, int cell, int hour) {
        if (!isWithin(mark, 0, TOP_MARK) || !net.isSea(cell) || !isWithin(hour, 0, now)
                || shipCount >= MOST_SHIPS) {
            return NONE;
        }
        Ship ship = ships[shipCount];
        ship.mark = mark;
        ship.cell = cell;
        ship.possible[cell] = true;
        for (int passed = hour; passed < now; passed++) {
            spreadPossible(ship, passed);
        }
        shipCount++;
        return shipCount - 1;
    }

    public boolean could(int ship, int cell) {
        return isWithin(ship, 0, shipCount - 1) && net.isSea(cell) && ships[ship].possible[cell];
    }

    public int sample(int cell, int digits) {
        if (!net.isSea(cell) || !isWithin(digits, 0, TOP_MARK)) {
            return NONE;
        }
        int nearest = NONE;
        int least = 0;
        for (int i = 0; i < shipCount; i++) {
            int difference = markDifference(ships[i].mark, digits);
            if (ships[i].possible[cell] && (nearest == NONE || difference < least)) {
                nearest = i;
                least = difference;
            }
        }
        return isDoubtful(nearest, least + DOUBT_MARGIN, cell, digits) ? DOUBT : nearest;
    }

    public boolean part(int party, int parts) {
        if (!isWithin(party, 0, PARTIES - 1) || !isWithin(parts, 0, TOP_PARTS)) {
            return false;
        }
        partsOf[party] = parts;
        return true;
    }

    public int bill(int party) {
        if (!isWithin(party, 0, PARTIES - 1)) {
            return NONE;
        }
        int all = 0;
        for (int i = 0; i < PARTIES; i++) {
            all += partsOf[i];
        }
        return shareOf(party, wholeBill(), all);
    }

    public int told(int skimmer, int what) {
        if (!fleet.has(skimmer)) {
            return NONE;
        }
        Skimmer asked = fleet.skimmers[skimmer];
        switch (what) {
            case 0: return asked.cell;
            case 1: return sea.loads[skimmer];
            case 2: return asked.inDepot + sea.loads[skimmer];
            case 3: return asked.went ? 1 : 0;
            default: return NONE;
        }
    }

    public int count(int what) {
        switch (what) {
            case 0: return now;
            case 1: return spilled;
            case 2: return litersAfloat(sea);
            case 3: return sea.lost;
            case 4: return litersAshore(sea);
            case 5: return sea.away;
            case 6: return litersSkimmed();
            case 7: return harmOf(sea);
            case 8: return wholeBill();
            case 9: return booms.size;
            case 10: return shipCount;
            default: return NONE;
        }
    }

    private static boolean isWithin(int value, int least, int most) {
        return value >= least && value <= most;
    }

    // ---- an hour

    private void passHour(Slick slick, int world, int hour) {
        driftAndLose(slick, world, hour);
        fleet.skim(slick, 0, fleet.size);
    }

    private void driftAndLose(Slick slick, int world, int hour) {
        int way = sky.wayAt(world, hour);
        if (way != NO_WAY) {
            driftAll(slick, way, sky.forceAt(world, hour));
        }
        loseByAge(slick, hour - firstSpillHour);
    }

    private void driftAll(Slick slick, int way, int force) {
        for (int turn = 0; turn < CELLS; turn++) {
            int cell = cellAtTurn(turn, way);
            if (net.isSea(cell)) {
                driftFrom(slick, cell, way, force);
            }
        }
    }

    /** Each cell's turn comes after that of the cell ahead of it, so nothing moves twice in an hour. */
    private static int cellAtTurn(int turn, int way) {
        return way == EAST || way == SOUTH ? CELLS - 1 - turn : turn;
    }

    private void driftFrom(Slick slick, int cell, int way, int force) {
        int drifting = slick.liters[cell] / 2;
        if (drifting == 0) {
            return;
        }
        int target = Net.ahead(cell, way);
        if (target == NONE) {
            slick.away += drifting;
        } else {
            if (booms.hold(cell, way, force)) {
                drifting /= 10;
            }
            slick.liters[target] += drifting;
        }
        slick.liters[cell] -= drifting;
    }

    private void loseByAge(Slick slick, int age) {
        int perThousand = age < 12 ? 30 : age < 48 ? 10 : 2;
        for (int cell = 0; cell < CELLS; cell++) {
            if (net.isSea(cell)) {
                int loss = slick.liters[cell] * perThousand / 1000;
                slick.liters[cell] -= loss;
                slick.lost += loss;
            }
        }
    }

    // ---- what is in a slick

    private int litersAfloat(Slick slick) {
        int sum = 0;
        for (int cell = 0; cell < CELLS; cell++) {
            sum += net.isSea(cell) ? slick.liters[cell] : 0;
        }
        return sum;
    }

    private int litersAshore(Slick slick) {
        int sum = 0;
        for (int cell = 0; cell < CELLS; cell++) {
            sum += net.isSea(cell) ? 0 : slick.liters[cell];
        }
        return sum;
    }

    private int harmOf(Slick slick) {
        int sum = 0;
        for (int cell = 0; cell < CELLS; cell++) {
            sum += slick.liters[cell] * net.ranks[cell];
        }
        return sum / 1000;
    }

    // ---- hours to come

    private int harmAhead(int world, int n) {
        Slick trial = trials[0];
        trial.become(sea);
        for (int i = 0; i < n; i++) {
            passHour(trial, world, now + i);
        }
        return harmOf(trial);
    }

    /**
     * Tries every cell for the outing's hour of this step, on trials[step] as it is when that hour begins.
     * Ways come in the order of their cells, so only a way with more liters displaces the one found before,
     * and a cell from which no more can be hoped for is passed over.
     */
    private void searchHour(int step, int from, int taken) {
        if (step < 0 || step >= MOST_HOURS_OUT) {
            return;
        }
        Slick trial = trials[step];
        driftAndLose(trial, TRUE_WORLD, now + step);
        fleet.skim(trial, 0, outing.skimmer);
        Skimmer skimmer = fleet.skimmers[outing.skimmer];
        int laterHope = skimmer.rate * (outing.hours - step - 1);
        int hopeInAll = Math.min(litersAfloat(trial), fleet.roomLeft(trial, outing.skimmer));
        for (int cell = 0; cell < CELLS; cell++) {
            if (!isWayOverSea(net, from, cell, skimmer.speed)) {
                continue;
            }
            int gain = fleet.canTake(trial, outing.skimmer, cell);
            if (taken + Math.min(gain + laterHope, hopeInAll) > outing.most) {
                searchFrom(step, cell, taken + gain);
            }
        }
    }

    private void searchFrom(int step, int cell, int taken) {
        if (step == 0) {
            outing.first = cell;
        }
        int next = step + 1;
        if (next >= outing.hours || next >= MOST_HOURS_OUT) {
            outing.most = taken;
            outing.firstOfMost = outing.first;
            return;
        }
        trials[next].become(trials[step]);
        fleet.take(trials[next], outing.skimmer, cell);
        fleet.skim(trials[next], outing.skimmer + 1, fleet.size);
        searchHour(next, cell, taken);
    }

    // ---- ways over sea

    /** Each level deeper has a step less, and without steps left there is none: three levels at most. */
    private static boolean isWayOverSea(Net net, int from, int to, int steps) {
        if (steps < 0 || !net.isSea(from) || !net.isSea(to) || Net.distance(from, to) > steps) {
            return false;
        }
        if (from == to) {
            return true;
        }
        for (int way = NORTH; way <= WEST; way++) {
            if (isWayOverSea(net, Net.ahead(from, way), to, steps - 1)) {
                return true;
            }
        }
        return false;
    }

    // ---- ships and samples

    private boolean shipLeftAt(int cell) {
        for (int i = 0; i < shipCount; i++) {
            if (ships[i].cell == cell) {
                return true;
            }
        }
        return false;
    }

    private void spreadPossible(Ship ship, int hour) {
        int way = sky.wayAt(TRUE_WORLD, hour);
        for (int turn = 0; turn < CELLS && way != NO_WAY; turn++) {
            int cell = cellAtTurn(turn, way);
            int target = Net.ahead(cell, way);
            if (ship.possible[cell] && net.isSea(target)) {
                ship.possible[target] = true;
            }
        }
    }

    private boolean isDoubtful(int nearest, int bound, int cell, int digits) {
        for (int i = 0; i < shipCount; i++) {
            if (i != nearest && ships[i].possible[cell] && markDifference(ships[i].mark, digits) < bound) {
                return true;
            }
        }
        return false;
    }

    private static int markDifference(int mark, int digits) {
        int sum = 0;
        int restOfMark = mark;
        int restOfDigits = digits;
        for (int i = 0; i < MARK_DIGITS; i++) {
            int difference = restOfMark % 10 - restOfDigits % 10;
            sum += difference * difference;
            restOfMark /= 10;
            restOfDigits /= 10;
        }
        return sum;
    }

    // ---- the bill

    private int litersSkimmed() {
        int sum = 0;
        for (int i = 0; i < fleet.size; i++) {
            sum += fleet.skimmers[i].inDepot + sea.loads[i];
        }
        return sum;
    }

    private int wholeBill() {
        return LITER_COST * litersSkimmed() + SKIMMER_HOUR_COST * skimmerHours + HARM_COST * harmOf(sea);
    }

    /** The bill stays below 3 million, so a hundred times it fits an int. */
    private int shareOf(int party, int whole, int all) {
        if (all == 0) {
            return 0;
        }
        int left = whole;
        int ahead = 0;
        int ownCut = whole * partsOf[party] % all;
        for (int i = 0; i < PARTIES; i++) {
            left -= whole * partsOf[i] / all;
            int cut = whole * partsOf[i] % all;
            if (cut > ownCut || cut == ownCut && i < party) {
                ahead++;
            }
        }
        return whole * partsOf[party] / all + (ahead < left ? 1 : 0);
    }

    /** The cells: which are sea, and which lie beside which. */
    private static final class Net {
        final int[] ranks = new int[CELLS];

        static boolean isCell(int cell) {
            return cell >= 0 && cell < CELLS;
        }

        boolean isSea(int cell) {
            return isCell(cell) && ranks[cell] == 0;
        }

        /** The next cell that way, or NONE where the net ends. */
        static int ahead(int cell, int way) {
            int column = cell % COLUMNS;
            switch (way) {
                case NORTH: return cell >= COLUMNS ? cell - COLUMNS : NONE;
                case EAST: return column < COLUMNS - 1 ? cell + 1 : NONE;
                case SOUTH: return cell < CELLS - COLUMNS ? cell + COLUMNS : NONE;
                case WEST: return column > 0 ? cell - 1 : NONE;
                default: return NONE;
            }
        }

        static int opposite(int way) {
            switch (way) {
                case NORTH: return SOUTH;
                case EAST: return WEST;
                case SOUTH: return NORTH;
                case WEST: return EAST;
                default: return NO_WAY;
            }
        }

        /** The way from a cell to one side by side with it, or NO_WAY. */
        static int wayBeside(int from, int to) {
            for (int way = NORTH; way <= WEST; way++) {
                if (ahead(from, way) == to) {
                    return way;
                }
            }
            return NO_WAY;
        }

        static int distance(int a, int b) {
            return Math.abs(a / COLUMNS - b / COLUMNS) + Math.abs(a % COLUMNS - b % COLUMNS);
        }
    }

    /** Booms by number, and their limits by the cell and the way from which oil comes to them, on both sides. */
    private static final class Booms {
        final int[] cells = new int[MOST_BOOMS];
        final int[] ways = new int[MOST_BOOMS];
        final int[] limits = new int[CELLS * WAYS];
        int size;

        Booms() {
            for (int i = 0; i < MOST_BOOMS; i++) {
                cells[i] = NONE;
            }
            for (int i = 0; i < CELLS * WAYS; i++) {
                limits[i] = NONE;
            }
        }

        int lay(int cell, int way, int limit) {
            if (limits[cell * WAYS + way] != NONE) {
                return NONE;
            }
            for (int i = 0; i < MOST_BOOMS; i++) {
                if (cells[i] == NONE) {
                    cells[i] = cell;
                    ways[i] = way;
                    limitBothSides(cell, way, limit);
                    size++;
                    return i;
                }
            }
            return NONE;
        }

        boolean takeUp(int number) {
            if (number < 0 || number >= MOST_BOOMS || cells[number] == NONE) {
                return false;
            }
            limitBothSides(cells[number], ways[number], NONE);
            cells[number] = NONE;
            size--;
            return true;
        }

        private void limitBothSides(int cell, int way, int limit) {
            int beyond = Net.ahead(cell, way);
            limits[cell * WAYS + way] = limit;
            if (beyond != NONE) {
                limits[beyond * WAYS + Net.opposite(way)] = limit;
            }
        }

        boolean endAt(int cell) {
            for (int way = NORTH; way <= WEST; way++) {
                if (limits[cell * WAYS + way] != NONE) {
                    return true;
                }
            }
            return false;
        }

        /** Where no boom lies the limit is NONE: below every force, so that it holds nothing. */
        boolean hold(int cell, int way, int force) {
            return force <= limits[cell * WAYS + way];
        }
    }

    /** The weather of all worlds, a way and a force packed in one number an hour. */
    private static final class Sky {
        final int[] packed = new int[WORLDS * (LAST_HOUR + 1)];

        void tell(int world, int hour, int way, int force) {
            packed[world * (LAST_HOUR + 1) + hour] = way * (TOP_FORCE + 1) + force;
        }

        int wayAt(int world, int hour) {
            return at(world, hour) / (TOP_FORCE + 1);
        }

        int forceAt(int world, int hour) {
            return at(world, hour) % (TOP_FORCE + 1);
        }

        /** Hours after the last one can be looked ahead to, but nothing can be told of them. */
        private int at(int world, int hour) {
            return hour > LAST_HOUR ? 0 : packed[world * (LAST_HOUR + 1) + hour];
        }
    }

    /** What an hour changes; trials are made on copies. */
    private static final class Slick {
        final int[] liters = new int[CELLS];
        final int[] loads = new int[MOST_SKIMMERS];
        int lost;
        int away;

        void become(Slick other) {
            System.arraycopy(other.liters, 0, liters, 0, CELLS);
            System.arraycopy(other.loads, 0, loads, 0, MOST_SKIMMERS);
            lost = other.lost;
            away = other.away;
        }
    }

    private static final class Skimmer {
        int cell;
        int rate;
        int room;
        int speed;
        int inDepot;
        boolean went;
    }

    private static final class Fleet {
        final Skimmer[] skimmers = new Skimmer[MOST_SKIMMERS];
        int size;

        Fleet() {
            for (int i = 0; i < MOST_SKIMMERS; i++) {
                skimmers[i] = new Skimmer();
            }
        }

        boolean has(int number) {
            return number >= 0 && number < size;
        }

        int add(int cell, int rate, int room, int speed) {
            if (size >= MOST_SKIMMERS) {
                return NONE;
            }
            Skimmer added = skimmers[size];
            added.cell = cell;
            added.rate = rate;
            added.room = room;
            added.speed = speed;
            size++;
            return size - 1;
        }

        boolean isAt(int cell) {
            for (int i = 0; i < size; i++) {
                if (skimmers[i].cell == cell) {
                    return true;
                }
            }
            return false;
        }

        void beginHour() {
            for (int i = 0; i < size; i++) {
                skimmers[i].went = false;
            }
        }

        int roomLeft(Slick slick, int number) {
            return skimmers[number].room - slick.loads[number];
        }

        int canTake(Slick slick, int number, int cell) {
            int wanted = Math.min(skimmers[number].rate, roomLeft(slick, number));
            return Math.min(wanted, slick.liters[cell]);
        }

        void take(Slick slick, int number, int cell) {
            int taken = canTake(slick, number, cell);
            slick.liters[cell] -= taken;
            slick.loads[number] += taken;
        }

        /** The skimmers from first to before end, each where it is. */
        void skim(Slick slick, int first, int end) {
            for (int i = first; i < end; i++) {
                take(slick, i, skimmers[i].cell);
            }
        }
    }

    /** A search for the best way of a skimmer: what it is for, and what it has found so far. */
    private static final class Outing {
        int skimmer;
        int hours;
        int first;
        int most;
        int firstOfMost;

        void begin(int number, int n) {
            skimmer = number;
            hours = n;
            first = NONE;
            most = NONE;
            firstOfMost = NONE;
        }
    }

    /** A ship, and the cells where oil that it left could be now. */
    private static final class Ship {
        int mark;
        int cell;
        final boolean[] possible = new boolean[CELLS];
    }
}
