import java.util.NoSuchElementException;

/** A chart of a coast with turning lighthouses and ships; shared/DOC.md says what each call promises. */
public final class BeamChart {
    private static final int SIDE = 8;
    private static final int CELLS = SIDE * SIDE;
    private static final int NO_CELL = -1;
    private static final int DIRECTIONS = 4;
    private static final int FIRST_DEPTH = 5;
    private static final int MOST_DEPTH = 9;
    private static final int MOST_LIGHTS = 6;
    private static final int MOST_RANGE = 9;
    private static final int LEAST_PERIOD = 8;
    private static final int MOST_PERIOD = 24;
    private static final int SECTORS = 8;
    private static final int MOST_SHIPS = 6;
    private static final int MOST_DRAUGHT = 9;
    private static final int SALVAGE_PER_DRAUGHT = 10;
    private static final int MOST_MINUTES = 48;
    private static final int TIDE_CYCLE = 12;
    private static final int MOST_UNDO = 8;
    private static final int TEXT_ROOM = 60;
    private static final int NO_FAULT = -1;

    // The answers of changes are never negative, so these tell apart why a change was refused.
    private static final int NO_SUCH_INDEX = -1;
    private static final int OUT_OF_RANGE = -2;
    private static final int DENIED = -3;

    private static final int NOTHING_DENIED = 0;
    private static final int LIMIT_REACHED = 1;
    private static final int LIGHT_ON_CELL = 2;
    private static final int TOO_SHALLOW = 3;
    private static final int NO_WAY = 4;
    private static final int IS_WRECKED = 5;
    private static final int IS_AFLOAT = 6;
    private static final int PRESENT_VALUE = 7;
    private static final int COMMAND_FAILED = 8;
    private static final int OTHER_EXCEPTION = 9;
    private static final int NO_CAUSE = 0;

    private static final CommandKind[] KINDS = CommandKind.values();

    private final Coast coast;
    private final Coast snapshot;
    private boolean hasSnapshot;
    private final History history;
    private final Ways ways;
    private final CellGroups groups;
    private final long[] reached;
    private final CommandText text;
    private int keptFault;
    private final StringBuilder line;
    private int deniedNumber;
    private int deniedDetail;
    private int deniedCause;

    public BeamChart() {
        coast = new Coast();
        snapshot = new Coast();
        history = new History();
        ways = new Ways();
        groups = new CellGroups();
        reached = new long[MOST_LIGHTS];
        text = new CommandText();
        keptFault = NO_FAULT;
        line = new StringBuilder();
    }

    // ---- depths

    public int setDepth(int column, int row, int depth)
            throws IndexOutOfBoundsException, IllegalArgumentException, UnsupportedOperationException {
        history.prepare(coast);
        return settle(changeDepth(column, row, depth));
    }

    public int depth(int column, int row) throws IndexOutOfBoundsException {
        return coast.depthOf(existingCell(column, row));
    }

    public int water(int column, int row) throws IndexOutOfBoundsException {
        return coast.waterOf(existingCell(column, row));
    }

    public int tide() {
        return tideAt(coast.minute);
    }

    public int columnByDepth(int rank) throws NoSuchElementException {
        return columnIn(cellByDepth(rank));
    }

    public int rowByDepth(int rank) throws NoSuchElementException {
        return rowIn(cellByDepth(rank));
    }

    public int clearance(int column, int row, int toColumn, int toRow) throws IndexOutOfBoundsException {
        int from = existingCell(column, row);
        int to = existingCell(toColumn, toRow);
        int shallower = Math.min(coast.depthOf(from), coast.depthOf(to));
        groups.separate();
        for (int depth = MOST_DEPTH; depth > 0; depth--) {
            groups.uniteAt(coast, depth);
            if (depth <= shallower && groups.rootOf(from) == groups.rootOf(to)) {
                return depth;
            }
        }
        return 0;
    }

    public int clearanceByFlooding(int column, int row, int toColumn, int toRow) throws IndexOutOfBoundsException {
        int from = existingCell(column, row);
        int to = existingCell(toColumn, toRow);
        int greatest = 0;
        for (int depth = 1; depth <= coast.depthOf(from); depth++) {
            ways.openDeep(coast, depth);
            ways.searchFrom(from);
            if (ways.lengthTo(to) == Ways.NONE) {
                break;
            }
            greatest = depth;
        }
        return greatest;
    }

    // ---- lights

    public int addLight(int column, int row, int range, int period)
            throws IndexOutOfBoundsException, IllegalArgumentException, UnsupportedOperationException {
        history.prepare(coast);
        return settle(placeLight(column, row, range, period));
    }

    public int setPhase(int light, int phase)
            throws IndexOutOfBoundsException, IllegalArgumentException, UnsupportedOperationException {
        history.prepare(coast);
        return settle(changePhase(light, phase));
    }

    public int removeLight(int light) throws IndexOutOfBoundsException {
        history.prepare(coast);
        return settle(douseLight(light));
    }

    public int lightCount() {
        return coast.lightCount;
    }

    public int lightOn(int column, int row) throws IndexOutOfBoundsException, NoSuchElementException {
        int light = coast.lightIndexOn(existingCell(column, row));
        if (light < 0) {
            throw new NoSuchElementException("no light is on the cell");
        }
        return light;
    }

    public int beam(int light) throws IndexOutOfBoundsException {
        return existingLight(light).sectorAt(coast.minute);
    }

    public int sectorOf(int light, int column, int row) throws IndexOutOfBoundsException, NoSuchElementException {
        Light lamp = existingLight(light);
        int cell = existingCell(column, row);
        if (cell == lamp.cell) {
            throw new NoSuchElementException("it is the cell of the light");
        }
        return lamp.sectorWith(cell);
    }

    public boolean reaches(int light, int column, int row) throws IndexOutOfBoundsException {
        Light lamp = existingLight(light);
        return coast.canReach(lamp, existingCell(column, row));
    }

    public boolean sweeps(int light, int column, int row) throws IndexOutOfBoundsException {
        Light lamp = existingLight(light);
        return coast.isSwept(lamp, existingCell(column, row));
    }

    public int minutesUntilSwept(int light, int column, int row)
            throws IndexOutOfBoundsException, NoSuchElementException {
        Light lamp = existingLight(light);
        int cell = reachedCell(lamp, column, row);
        if (cell == lamp.cell) {
            return 0;
        }
        int sector = lamp.sectorWith(cell);
        int minutes = 0;
        while (minutes < MOST_PERIOD && lamp.sectorAt(coast.minute + minutes) != sector) {
            minutes++;
        }
        return minutes;
    }

    public int minutesUntilSweptByDivision(int light, int column, int row)
            throws IndexOutOfBoundsException, NoSuchElementException {
        Light lamp = existingLight(light);
        int cell = reachedCell(lamp, column, row);
        if (cell == lamp.cell) {
            return 0;
        }
        int steps = Math.floorMod(lamp.sectorWith(cell) - lamp.sectorAt(coast.minute), SECTORS);
        if (steps == 0) {
            return 0;
        }
        // As a period has at least 8 minutes, the beam skips no sector: the first minute that is late enough will do.
        int wantedTurn = (lamp.turnAt(coast.minute) + steps) * lamp.period;
        return (wantedTurn + SECTORS - 1) / SECTORS - coast.minute;
    }

    public int reachedCells(int light) throws IndexOutOfBoundsException {
        return Long.bitCount(coast.reachOf(existingLight(light)));
    }

    public int litCells() {
        return Long.bitCount(reachOfAll());
    }

    public int fewestLights() {
        long all = reachOfAll();
        int fewest = coast.lightCount;
        for (int set = 0; set < 1 << coast.lightCount; set++) {
            if (Integer.bitCount(set) < fewest && reachOfSet(set) == all) {
                fewest = Integer.bitCount(set);
            }
        }
        return fewest;
    }

    public int fewestLightsBySearch() {
        long all = reachOfAll();
        return fewestToReach(reached, coast.lightCount, all, 0);
    }

    // ---- ships

    public int addShip(int column, int row, int draught)
            throws IndexOutOfBoundsException, IllegalArgumentException, UnsupportedOperationException {
        history.prepare(coast);
        return settle(launchShip(column, row, draught));
    }

    public int steer(int ship, int column, int row)
            throws IndexOutOfBoundsException, UnsupportedOperationException {
        history.prepare(coast);
        return settle(changeGoal(ship, column, row));
    }

    public int salvage(int ship) throws IndexOutOfBoundsException, UnsupportedOperationException {
        history.prepare(coast);
        return settle(salvageShip(ship));
    }

    public int pass(int minutes) throws IllegalArgumentException {
        history.prepare(coast);
        return settle(passMinutes(minutes));
    }

    public int shipCount() {
        return coast.shipCount;
    }

    public int columnOf(int ship) throws IndexOutOfBoundsException {
        return columnIn(existingShip(ship).cell);
    }

    public int rowOf(int ship) throws IndexOutOfBoundsException {
        return rowIn(existingShip(ship).cell);
    }

    public int goalColumn(int ship) throws IndexOutOfBoundsException, NoSuchElementException {
        return columnIn(existingGoal(existingShip(ship)));
    }

    public int goalRow(int ship) throws IndexOutOfBoundsException, NoSuchElementException {
        return rowIn(existingGoal(existingShip(ship)));
    }

    public boolean isWrecked(int ship) throws IndexOutOfBoundsException {
        return existingShip(ship).wrecked;
    }

    public int seenBy(int ship) throws IndexOutOfBoundsException {
        return coast.lightsSweeping(existingShip(ship).cell);
    }

    public int darkMinutes(int ship) throws IndexOutOfBoundsException {
        return existingShip(ship).darkMinutes;
    }

    public int wayLength(int ship, int column, int row) throws IndexOutOfBoundsException, NoSuchElementException {
        Ship vessel = existingShip(ship);
        int cell = existingCell(column, row);
        ways.openFor(coast, tideAt(coast.minute), vessel.draught);
        ways.searchFrom(vessel.cell);
        return existingLength(cell);
    }

    public int wayLengthByRounds(int ship, int column, int row)
            throws IndexOutOfBoundsException, NoSuchElementException {
        Ship vessel = existingShip(ship);
        int cell = existingCell(column, row);
        ways.openFor(coast, tideAt(coast.minute), vessel.draught);
        ways.improveFrom(vessel.cell);
        return existingLength(cell);
    }

    public int minutesUntilArrival(int ship) throws IndexOutOfBoundsException, NoSuchElementException {
        Ship vessel = existingShip(ship);
        int goal = existingGoal(vessel);
        int cell = vessel.cell;
        for (int minutes = 1; minutes <= MOST_MINUTES; minutes++) {
            int tide = tideAt(coast.minute + minutes);
            cell = ways.nextCell(coast, tide, vessel.draught, cell, goal);
            if (cell == goal) {
                return minutes;
            }
            if (coast.waterWith(cell, tide) < vessel.draught) {
                break;
            }
        }
        throw new NoSuchElementException("the ship does not arrive");
    }

    public int shipByDarkness(int rank) throws NoSuchElementException {
        for (int ship = 0; ship < coast.shipCount; ship++) {
            if (coast.shipsDarkerThan(ship) == rank) {
                return ship;
            }
        }
        throw new NoSuchElementException("no such rank");
    }

    // ---- log

    public int minute() {
        return coast.minute;
    }

    public int sightingsOf(int light) throws IndexOutOfBoundsException {
        return existingLight(light).sightings;
    }

    public int sightings() {
        return coast.sightings;
    }

    public int sightingsByLights() {
        int sum = coast.removedSightings;
        for (int light = 0; light < coast.lightCount; light++) {
            sum += coast.lights[light].sightings;
        }
        return sum;
    }

    public int wrecks() {
        return coast.wrecks;
    }

    public int salvaged() {
        return coast.salvage;
    }

    public double meanDepth() {
        int sum = 0;
        for (int cell = 0; cell < CELLS; cell++) {
            sum += coast.depths[cell];
        }
        return (double) sum / CELLS;
    }

    public float seenShare() throws ArithmeticException {
        if (coast.shipCount == 0) {
            throw new ArithmeticException("there are no ships");
        }
        int seen = 0;
        for (int ship = 0; ship < coast.shipCount; ship++) {
            if (coast.lightsSweeping(coast.ships[ship].cell) > 0) {
                seen++;
            }
        }
        return (float) seen / (float) coast.shipCount;
    }

    // ---- texts and output lines

    public int feed(char character) throws IllegalStateException {
        if (text.length >= TEXT_ROOM) {
            throw new IllegalStateException("the text buffer is full");
        }
        text.signs[text.length] = character;
        text.length++;
        return text.length;
    }

    public int execute() throws IllegalArgumentException, UnsupportedOperationException {
        int fault = text.parse();
        text.length = 0;
        if (fault != NO_FAULT) {
            keptFault = fault;
            throw new IllegalArgumentException("the text does not match the grammar");
        }
        history.prepare(coast);
        for (int index = 0; index < text.count; index++) {
            int answer = perform(text.commands[index]);
            if (answer < 0) {
                history.rollBack(coast);
                int cause = answer == DENIED ? deniedNumber : OTHER_EXCEPTION;
                keepDenial(COMMAND_FAILED, index, cause);
                throw new UnsupportedOperationException("a command failed");
            }
        }
        history.keep();
        return text.count;
    }

    public int faultPosition() throws NoSuchElementException {
        if (keptFault == NO_FAULT) {
            throw new NoSuchElementException("no fault position was kept yet");
        }
        return keptFault;
    }

    public int writeRow(int row) throws IndexOutOfBoundsException {
        if (row < 0 || row >= SIDE) {
            throw new IndexOutOfBoundsException("no such row");
        }
        line.setLength(0);
        for (int column = 0; column < SIDE; column++) {
            line.append(coast.signOf(row * SIDE + column));
        }
        return line.length();
    }

    public int writeShip(int ship) throws IndexOutOfBoundsException {
        Ship vessel = existingShip(ship);
        line.setLength(0);
        line.append(columnIn(vessel.cell)).append(rowIn(vessel.cell));
        line.append('d').append(vessel.draught);
        if (vessel.wrecked) {
            line.append('!');
        }
        if (vessel.goal != NO_CELL) {
            line.append('>').append(columnIn(vessel.goal)).append(rowIn(vessel.goal));
        }
        line.append('~').append(vessel.darkMinutes);
        return line.length();
    }

    public char lineCharacter(int index) throws IndexOutOfBoundsException {
        if (index < 0 || index >= line.length()) {
            throw new IndexOutOfBoundsException("no such index in the line");
        }
        return line.charAt(index);
    }

    // ---- the latest denial

    public int denial() throws NoSuchElementException {
        if (deniedNumber == NOTHING_DENIED) {
            throw new NoSuchElementException("nothing was denied yet");
        }
        return deniedNumber;
    }

    public int denialDetail() throws NoSuchElementException {
        if (deniedNumber == NOTHING_DENIED) {
            throw new NoSuchElementException("nothing was denied yet");
        }
        return deniedDetail;
    }

    public int denialCause() throws NoSuchElementException {
        if (deniedCause == NO_CAUSE) {
            throw new NoSuchElementException("there is no cause");
        }
        return deniedCause;
    }

    // ---- undo and snapshots

    public int undo() throws IllegalStateException {
        if (history.count == 0) {
            throw new IllegalStateException("no change can be undone");
        }
        history.takeBack(coast);
        return history.count;
    }

    public int undoCount() {
        return history.count;
    }

    public int saveSnapshot() {
        snapshot.copyFrom(coast);
        hasSnapshot = true;
        return coast.shipCount;
    }

    public int restoreSnapshot() throws IllegalStateException {
        if (!hasSnapshot) {
            throw new IllegalStateException("there is no snapshot");
        }
        coast.copyFrom(snapshot);
        history.count = 0;
        return coast.shipCount;
    }

    // ---- changes: each looks at all its conditions before it alters the coast

    private int changeDepth(int column, int row, int depth) {
        if (!isCell(column, row)) {
            return NO_SUCH_INDEX;
        }
        if (depth < 0 || depth > MOST_DEPTH) {
            return OUT_OF_RANGE;
        }
        int cell = row * SIDE + column;
        int before = coast.depths[cell];
        if (before == depth) {
            return deny(PRESENT_VALUE, depth);
        }
        coast.depths[cell] = depth;
        return before;
    }

    private int placeLight(int column, int row, int range, int period) {
        if (!isCell(column, row)) {
            return NO_SUCH_INDEX;
        }
        if (range < 1 || range > MOST_RANGE || period < LEAST_PERIOD || period > MOST_PERIOD) {
            return OUT_OF_RANGE;
        }
        int index = coast.lightCount;
        if (index >= MOST_LIGHTS) {
            return deny(LIMIT_REACHED, MOST_LIGHTS);
        }
        int cell = row * SIDE + column;
        int other = coast.lightIndexOn(cell);
        if (other >= 0) {
            return deny(LIGHT_ON_CELL, other);
        }
        coast.lights[index].start(cell, range, period);
        coast.lightCount++;
        return index;
    }

    private int changePhase(int light, int phase) {
        if (!coast.hasLight(light)) {
            return NO_SUCH_INDEX;
        }
        if (phase < 0 || phase >= SECTORS) {
            return OUT_OF_RANGE;
        }
        Light lamp = coast.lights[light];
        int before = lamp.phase;
        if (before == phase) {
            return deny(PRESENT_VALUE, phase);
        }
        lamp.phase = phase;
        return before;
    }

    private int douseLight(int light) {
        if (!coast.hasLight(light)) {
            return NO_SUCH_INDEX;
        }
        int made = coast.lights[light].sightings;
        coast.takeLight(light);
        coast.removedSightings += made;
        return made;
    }

    private int launchShip(int column, int row, int draught) {
        if (!isCell(column, row)) {
            return NO_SUCH_INDEX;
        }
        if (draught < 1 || draught > MOST_DRAUGHT) {
            return OUT_OF_RANGE;
        }
        int index = coast.shipCount;
        if (index >= MOST_SHIPS) {
            return deny(LIMIT_REACHED, MOST_SHIPS);
        }
        int cell = row * SIDE + column;
        int water = coast.waterOf(cell);
        if (water < draught) {
            return deny(TOO_SHALLOW, water);
        }
        coast.ships[index].start(cell, draught);
        coast.shipCount++;
        return index;
    }

    private int changeGoal(int ship, int column, int row) {
        if (!coast.hasShip(ship) || !isCell(column, row)) {
            return NO_SUCH_INDEX;
        }
        Ship vessel = coast.ships[ship];
        if (vessel.wrecked) {
            return deny(IS_WRECKED, ship);
        }
        int cell = row * SIDE + column;
        ways.openFor(coast, tideAt(coast.minute), vessel.draught);
        ways.searchFrom(vessel.cell);
        int length = ways.lengthTo(cell);
        if (length == Ways.NONE) {
            return deny(NO_WAY, ship);
        }
        vessel.goal = cell == vessel.cell ? NO_CELL : cell;
        return length;
    }

    private int salvageShip(int ship) {
        if (!coast.hasShip(ship)) {
            return NO_SUCH_INDEX;
        }
        if (!coast.ships[ship].wrecked) {
            return deny(IS_AFLOAT, ship);
        }
        int worth = SALVAGE_PER_DRAUGHT * coast.ships[ship].draught;
        coast.takeShip(ship);
        coast.salvage += worth;
        return worth;
    }

    private int passMinutes(int minutes) {
        if (minutes < 1 || minutes > MOST_MINUTES) {
            return OUT_OF_RANGE;
        }
        int before = coast.sightings;
        for (int passed = 0; passed < minutes; passed++) {
            coast.minute++;
            coast.moveShips(ways);
            coast.wreckShips();
            coast.sightShips();
        }
        return coast.sightings - before;
    }

    private int perform(Command command) {
        int[] values = command.values;
        switch (command.kind) {
            case DEPTH:
                return changeDepth(values[0], values[1], values[2]);
            case LIGHT:
                return placeLight(values[0], values[1], values[2], values[3]);
            case PHASE:
                return changePhase(values[0], values[1]);
            case DOUSE:
                return douseLight(values[0]);
            case SHIP:
                return launchShip(values[0], values[1], values[2]);
            case STEER:
                return changeGoal(values[0], values[1], values[2]);
            case SALVAGE:
                return salvageShip(values[0]);
            default:
                return passMinutes(values[0]);
        }
    }

    private int deny(int number, int detail) {
        keepDenial(number, detail, NO_CAUSE);
        return DENIED;
    }

    private void keepDenial(int number, int detail, int cause) {
        deniedNumber = number;
        deniedDetail = detail;
        deniedCause = cause;
    }

    private int settle(int answer) {
        if (answer == NO_SUCH_INDEX) {
            throw new IndexOutOfBoundsException("no such cell, light or ship");
        }
        if (answer == OUT_OF_RANGE) {
            throw new IllegalArgumentException("a value is out of range");
        }
        if (answer == DENIED) {
            throw new UnsupportedOperationException("denied");
        }
        history.keep();
        return answer;
    }

    // ---- what the calls ask for, or the exception that is due

    private static int existingCell(int column, int row) {
        if (!isCell(column, row)) {
            throw new IndexOutOfBoundsException("no such cell");
        }
        return row * SIDE + column;
    }

    private Light existingLight(int light) {
        if (!coast.hasLight(light)) {
            throw new IndexOutOfBoundsException("no such light");
        }
        return coast.lights[light];
    }

    private Ship existingShip(int ship) {
        if (!coast.hasShip(ship)) {
            throw new IndexOutOfBoundsException("no such ship");
        }
        return coast.ships[ship];
    }

    private static int existingGoal(Ship vessel) {
        if (vessel.goal == NO_CELL) {
            throw new NoSuchElementException("the ship has no goal");
        }
        return vessel.goal;
    }

    private int existingLength(int cell) {
        int length = ways.lengthTo(cell);
        if (length == Ways.NONE) {
            throw new NoSuchElementException("there is no way");
        }
        return length;
    }

    private int reachedCell(Light lamp, int column, int row) {
        int cell = existingCell(column, row);
        if (!coast.canReach(lamp, cell)) {
            throw new NoSuchElementException("the light does not reach the cell");
        }
        return cell;
    }

    private int cellByDepth(int rank) {
        int place = 0;
        for (int depth = 0; depth <= MOST_DEPTH; depth++) {
            for (int cell = 0; cell < CELLS; cell++) {
                if (coast.depths[cell] != depth) {
                    continue;
                }
                if (place == rank) {
                    return cell;
                }
                place++;
            }
        }
        throw new NoSuchElementException("no such rank");
    }

    // ---- sets of cells, as bits

    private long reachOfAll() {
        long all = 0;
        for (int light = 0; light < coast.lightCount; light++) {
            reached[light] = coast.reachOf(coast.lights[light]);
            all |= reached[light];
        }
        return all;
    }

    private long reachOfSet(int set) {
        long cells = 0;
        for (int light = 0; light < coast.lightCount; light++) {
            if ((set >> light & 1) == 1) {
                cells |= reached[light];
            }
        }
        return cells;
    }

    private static int fewestToReach(long[] reaches, int lights, long missing, int taken) {
        if (missing == 0 || taken >= lights) {
            return taken;
        }
        long firstMissing = missing & -missing;
        int fewest = lights;
        for (int light = 0; light < lights && light < reaches.length; light++) {
            if ((reaches[light] & firstMissing) != 0) {
                fewest = Math.min(fewest, fewestToReach(reaches, lights, missing & ~reaches[light], taken + 1));
            }
        }
        return fewest;
    }

    // ---- cells and the tide

    private static boolean isCell(int column, int row) {
        return column >= 0 && column < SIDE && row >= 0 && row < SIDE;
    }

    private static int columnIn(int cell) {
        return cell % SIDE;
    }

    private static int rowIn(int cell) {
        return cell / SIDE;
    }

    private static int neighbour(int cell, int direction) {
        switch (direction) {
            case 0:
                return cell + SIDE < CELLS ? cell + SIDE : NO_CELL;
            case 1:
                return cell % SIDE < SIDE - 1 ? cell + 1 : NO_CELL;
            case 2:
                return cell >= SIDE ? cell - SIDE : NO_CELL;
            default:
                return cell % SIDE > 0 ? cell - 1 : NO_CELL;
        }
    }

    private static int tideAt(int minute) {
        int hour = minute % TIDE_CYCLE;
        if (hour >= 4 && hour <= 7) {
            return 2;
        }
        return hour >= 2 && hour <= 9 ? 1 : 0;
    }

    private static final class Light {
        int cell;
        int range;
        int period = LEAST_PERIOD;
        int phase;
        int sightings;

        void start(int onCell, int withRange, int withPeriod) {
            cell = onCell;
            range = withRange;
            period = withPeriod;
            phase = 0;
            sightings = 0;
        }

        void copyFrom(Light other) {
            cell = other.cell;
            range = other.range;
            period = other.period;
            phase = other.phase;
            sightings = other.sightings;
        }

        int turnAt(int minute) {
            return period > 0 ? SECTORS * minute / period : 0;
        }

        int sectorAt(int minute) {
            return Math.floorMod(phase + turnAt(minute), SECTORS);
        }

        int sectorWith(int other) {
            int dx = columnIn(other) - columnIn(cell);
            int dy = rowIn(other) - rowIn(cell);
            if (dy > 0 || dy == 0 && dx > 0) {
                return upperSector(dx, dy);
            }
            return SECTORS / 2 + upperSector(-dx, -dy);
        }

        private static int upperSector(int dx, int dy) {
            if (dx > 0) {
                return dy < dx ? 0 : 1;
            }
            return -dx < dy ? 2 : 3;
        }
    }

    private static final class Ship {
        int cell;
        int draught;
        int goal = NO_CELL;
        boolean wrecked;
        int darkMinutes;

        void start(int onCell, int withDraught) {
            cell = onCell;
            draught = withDraught;
            goal = NO_CELL;
            wrecked = false;
            darkMinutes = 0;
        }

        void copyFrom(Ship other) {
            cell = other.cell;
            draught = other.draught;
            goal = other.goal;
            wrecked = other.wrecked;
            darkMinutes = other.darkMinutes;
        }
    }

    /** Everything that changes can change. */
    private static final class Coast {
        final int[] depths = new int[CELLS];
        final Light[] lights = new Light[MOST_LIGHTS];
        final Ship[] ships = new Ship[MOST_SHIPS];
        int lightCount;
        int shipCount;
        int minute;
        int sightings;
        int removedSightings;
        int wrecks;
        int salvage;

        Coast() {
            for (int cell = 0; cell < CELLS; cell++) {
                depths[cell] = FIRST_DEPTH;
            }
            for (int light = 0; light < MOST_LIGHTS; light++) {
                lights[light] = new Light();
            }
            for (int ship = 0; ship < MOST_SHIPS; ship++) {
                ships[ship] = new Ship();
            }
        }

        void copyFrom(Coast other) {
            System.arraycopy(other.depths, 0, depths, 0, CELLS);
            for (int light = 0; light < MOST_LIGHTS; light++) {
                lights[light].copyFrom(other.lights[light]);
            }
            for (int ship = 0; ship < MOST_SHIPS; ship++) {
                ships[ship].copyFrom(other.ships[ship]);
            }
            lightCount = other.lightCount;
            shipCount = other.shipCount;
            minute = other.minute;
            sightings = other.sightings;
            removedSightings = other.removedSightings;
            wrecks = other.wrecks;
            salvage = other.salvage;
        }

        boolean hasLight(int light) {
            return light >= 0 && light < lightCount && light < MOST_LIGHTS;
        }

        boolean hasShip(int ship) {
            return ship >= 0 && ship < shipCount && ship < MOST_SHIPS;
        }

        int depthOf(int cell) {
            return cell >= 0 && cell < CELLS ? depths[cell] : 0;
        }

        int waterOf(int cell) {
            return waterWith(cell, tideAt(minute));
        }

        int waterWith(int cell, int tide) {
            int depth = depthOf(cell);
            return depth == 0 ? 0 : depth + tide;
        }

        int lightIndexOn(int cell) {
            for (int light = 0; light < lightCount; light++) {
                if (lights[light].cell == cell) {
                    return light;
                }
            }
            return -1;
        }

        // The object goes behind the others, as every place has one that is used again.
        void takeLight(int light) {
            Light taken = lights[light];
            for (int next = light + 1; next < lightCount; next++) {
                lights[next - 1] = lights[next];
            }
            lightCount--;
            lights[lightCount] = taken;
        }

        void takeShip(int ship) {
            Ship taken = ships[ship];
            for (int next = ship + 1; next < shipCount; next++) {
                ships[next - 1] = ships[next];
            }
            shipCount--;
            ships[shipCount] = taken;
        }

        boolean canReach(Light light, int cell) {
            int dx = columnIn(cell) - columnIn(light.cell);
            int dy = rowIn(cell) - rowIn(light.cell);
            if (dx * dx + dy * dy > light.range * light.range) {
                return false;
            }
            int steps = Math.max(Math.abs(dx), Math.abs(dy));
            for (int step = 1; step < steps; step++) {
                int right = Math.floorDiv(2 * step * dx + steps, 2 * steps);
                int up = Math.floorDiv(2 * step * dy + steps, 2 * steps);
                if (depthOf(light.cell + up * SIDE + right) == 0) {
                    return false;
                }
            }
            return true;
        }

        boolean isSwept(Light light, int cell) {
            if (cell == light.cell) {
                return true;
            }
            return light.sectorAt(minute) == light.sectorWith(cell) && canReach(light, cell);
        }

        int lightsSweeping(int cell) {
            int count = 0;
            for (int light = 0; light < lightCount; light++) {
                if (isSwept(lights[light], cell)) {
                    count++;
                }
            }
            return count;
        }

        long reachOf(Light light) {
            long cells = 0;
            for (int cell = 0; cell < CELLS; cell++) {
                if (canReach(light, cell)) {
                    cells |= 1L << cell;
                }
            }
            return cells;
        }

        int shipsDarkerThan(int ship) {
            int count = 0;
            for (int other = 0; other < shipCount; other++) {
                if (other != ship && isDarker(other, ship)) {
                    count++;
                }
            }
            return count;
        }

        private boolean isDarker(int ship, int other) {
            Ship one = ships[ship];
            Ship two = ships[other];
            if (one.darkMinutes != two.darkMinutes) {
                return one.darkMinutes > two.darkMinutes;
            }
            return one.draught != two.draught ? one.draught > two.draught : ship < other;
        }

        void moveShips(Ways ways) {
            int tide = tideAt(minute);
            for (int index = 0; index < shipCount; index++) {
                Ship ship = ships[index];
                if (ship.wrecked || ship.goal == NO_CELL) {
                    continue;
                }
                ship.cell = ways.nextCell(this, tide, ship.draught, ship.cell, ship.goal);
                if (ship.cell == ship.goal) {
                    ship.goal = NO_CELL;
                }
            }
        }

        void wreckShips() {
            for (int index = 0; index < shipCount; index++) {
                Ship ship = ships[index];
                if (!ship.wrecked && waterOf(ship.cell) < ship.draught) {
                    ship.wrecked = true;
                    ship.goal = NO_CELL;
                    wrecks++;
                }
            }
        }

        void sightShips() {
            for (int index = 0; index < shipCount; index++) {
                Ship ship = ships[index];
                if (ship.wrecked) {
                    continue;
                }
                int before = sightings;
                for (int light = 0; light < lightCount; light++) {
                    if (isSwept(lights[light], ship.cell)) {
                        lights[light].sightings++;
                        sightings++;
                    }
                }
                ship.darkMinutes = sightings == before ? ship.darkMinutes + 1 : 0;
            }
        }

        char signOf(int cell) {
            if (lightIndexOn(cell) >= 0) {
                return '*';
            }
            boolean hasAfloat = false;
            for (int index = 0; index < shipCount; index++) {
                if (ships[index].cell == cell) {
                    if (ships[index].wrecked) {
                        return 'X';
                    }
                    hasAfloat = true;
                }
            }
            return hasAfloat ? 'S' : (char) ('0' + depthOf(cell));
        }
    }

    /** Lengths of ways from one cell over the cells that are open. */
    private static final class Ways {
        static final int NONE = -1;

        final boolean[] open = new boolean[CELLS];
        final int[] lengths = new int[CELLS];
        final int[] firstCells = new int[CELLS];
        final int[] queue = new int[CELLS];

        void openFor(Coast coast, int tide, int draught) {
            for (int cell = 0; cell < CELLS; cell++) {
                int depth = coast.depths[cell];
                open[cell] = depth > 0 && depth + tide >= draught;
            }
        }

        void openDeep(Coast coast, int depth) {
            for (int cell = 0; cell < CELLS; cell++) {
                open[cell] = coast.depths[cell] >= depth;
            }
        }

        int lengthTo(int cell) {
            return cell >= 0 && cell < CELLS ? lengths[cell] : NONE;
        }

        // A cell is found first from the earliest cell in the queue, and the queue keeps the order of the
        // directions, so the first cell that is handed on is the first one with which a shortest way begins.
        void searchFrom(int start) {
            beginAt(start);
            queue[0] = start;
            int found = 1;
            for (int next = 0; next < found && next < CELLS; next++) {
                int from = queue[next];
                for (int direction = 0; direction < DIRECTIONS; direction++) {
                    int to = neighbour(from, direction);
                    if (found >= CELLS || to == NO_CELL || !open[to] || lengths[to] != NONE) {
                        continue;
                    }
                    lengths[to] = lengths[from] + 1;
                    firstCells[to] = next == 0 ? to : firstCells[from];
                    queue[found] = to;
                    found++;
                }
            }
        }

        void improveFrom(int start) {
            beginAt(start);
            boolean improved = true;
            for (int round = 0; round < CELLS && improved; round++) {
                improved = improveAll();
            }
        }

        int nextCell(Coast coast, int tide, int draught, int cell, int goal) {
            openFor(coast, tide, draught);
            searchFrom(cell);
            return lengthTo(goal) > 0 ? firstCells[goal] : cell;
        }

        private void beginAt(int start) {
            for (int cell = 0; cell < CELLS; cell++) {
                lengths[cell] = cell == start ? 0 : NONE;
            }
        }

        private boolean improveAll() {
            boolean improved = false;
            for (int cell = 0; cell < CELLS; cell++) {
                for (int direction = 0; open[cell] && direction < DIRECTIONS; direction++) {
                    int length = lengthTo(neighbour(cell, direction));
                    if (length != NONE && (lengths[cell] == NONE || length + 1 < lengths[cell])) {
                        lengths[cell] = length + 1;
                        improved = true;
                    }
                }
            }
            return improved;
        }
    }

    /** Groups of united cells, each known by its root. */
    private static final class CellGroups {
        final int[] parents = new int[CELLS];

        void separate() {
            for (int cell = 0; cell < CELLS; cell++) {
                parents[cell] = cell;
            }
        }

        int rootOf(int cell) {
            int root = cell;
            for (int step = 0; step < CELLS && parents[root] != root; step++) {
                root = parents[root];
            }
            return root;
        }

        void uniteAt(Coast coast, int depth) {
            for (int cell = 0; cell < CELLS; cell++) {
                if (coast.depths[cell] != depth) {
                    continue;
                }
                for (int direction = 0; direction < DIRECTIONS; direction++) {
                    int other = neighbour(cell, direction);
                    if (other != NO_CELL && coast.depthOf(other) >= depth) {
                        parents[rootOf(other)] = rootOf(cell);
                    }
                }
            }
        }
    }

    /** The coasts before the latest changes, in a ring. */
    private static final class History {
        final Coast[] befores = new Coast[MOST_UNDO];
        Coast prepared = new Coast();
        int first;
        int count;

        History() {
            for (int index = 0; index < MOST_UNDO; index++) {
                befores[index] = new Coast();
            }
        }

        void prepare(Coast coast) {
            prepared.copyFrom(coast);
        }

        void rollBack(Coast coast) {
            coast.copyFrom(prepared);
        }

        void keep() {
            int place = (first + count) % MOST_UNDO;
            Coast oldest = befores[place];
            befores[place] = prepared;
            prepared = oldest;
            if (count < MOST_UNDO) {
                count++;
            } else {
                first = (first + 1) % MOST_UNDO;
            }
        }

        void takeBack(Coast coast) {
            if (count > 0) {
                count--;
                coast.copyFrom(befores[(first + count) % MOST_UNDO]);
            }
        }
    }

    /** The commands of texts; in a pattern # stands for a digit and N for a number. */
    private enum CommandKind {
        DEPTH("depth ##=#"),
        LIGHT("light ## #/N"),
        PHASE("phase #=#"),
        DOUSE("douse #"),
        SHIP("ship ## #"),
        STEER("steer #>##"),
        SALVAGE("salvage #"),
        WAIT("wait N");

        final String pattern;

        CommandKind(String pattern) {
            this.pattern = pattern;
        }
    }

    private static final class Command {
        static final int MOST_VALUES = 4;

        CommandKind kind = CommandKind.WAIT;
        final int[] values = new int[MOST_VALUES];
    }

    /** The text buffer and the commands that were parsed from it. */
    private static final class CommandText {
        // The shortest command has 6 characters.
        static final int MOST_COMMANDS = TEXT_ROOM / 6;

        final char[] signs = new char[TEXT_ROOM];
        final Command[] commands = new Command[MOST_COMMANDS];
        int length;
        int count;
        int position;

        CommandText() {
            for (int index = 0; index < MOST_COMMANDS; index++) {
                commands[index] = new Command();
            }
        }

        /** Answers the fault position, or NO_FAULT. */
        int parse() {
            position = 0;
            count = 0;
            while (count < MOST_COMMANDS && parseCommand(commands[count])) {
                count++;
                if (position >= length) {
                    return NO_FAULT;
                }
                if (signs[position] != ';') {
                    break;
                }
                position++;
            }
            return position;
        }

        // No two patterns match the same text, so the one that leads furthest tells where the fault is.
        private boolean parseCommand(Command command) {
            int start = position;
            int furthest = start;
            for (int index = 0; index < KINDS.length; index++) {
                position = start;
                if (matches(KINDS[index].pattern, command.values)) {
                    command.kind = KINDS[index];
                    return true;
                }
                furthest = Math.max(furthest, position);
            }
            position = furthest;
            return false;
        }

        private boolean matches(String pattern, int[] values) {
            int filled = 0;
            for (int index = 0; index < pattern.length(); index++) {
                char wanted = pattern.charAt(index);
                if (wanted != '#' && wanted != 'N') {
                    if (position >= length || signs[position] != wanted) {
                        return false;
                    }
                    position++;
                    continue;
                }
                if (!isAtDigit()) {
                    return false;
                }
                int value = takeDigit();
                if (wanted == 'N' && isAtDigit()) {
                    value = 10 * value + takeDigit();
                }
                if (filled < Command.MOST_VALUES) {
                    values[filled] = value;
                    filled++;
                }
            }
            return true;
        }

        private boolean isAtDigit() {
            return position < length && signs[position] >= '0' && signs[position] <= '9';
        }

        private int takeDigit() {
            int digit = signs[position] - '0';
            position++;
            return digit;
        }
    }
}
