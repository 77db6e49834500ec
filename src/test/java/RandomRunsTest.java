import java.util.ArrayDeque;
import java.util.ArrayList;
import java.util.Deque;
import java.util.List;

/** Random changes on a chart and on a plain one beside it, which must agree, with all pairs of equal calls. */
public final class RandomRunsTest {
    private static final int RUNS = 400;
    private static final int CHANGES = 60;

    private long seed;
    private BeamChart x = new BeamChart();
    private PlainChart plain = new PlainChart();
    private PlainChart snapshot = null;
    private final Deque<PlainChart> befores = new ArrayDeque<>();

    private RandomRunsTest(long seed) {
        this.seed = seed;
    }

    public static void main(String[] args) {
        for (int run = 0; run < RUNS; run++) {
            new RandomRunsTest(run).run();
        }
        Check.end("RandomRunsTest");
    }

    private int below(int bound) {
        seed = seed * 6364136223846793005L + 1442695040888963407L;
        return (int) ((seed >>> 33) % bound);
    }

    private void run() {
        // Flat coasts make wrecks and detours, deep ones long ways.
        int deepest = 3 + below(7);
        for (int cell = 0; cell < 64; cell++) {
            int depth = below(5) == 0 ? below(deepest + 1) : deepest;
            if (depth != 5) {
                x.setDepth(cell % 8, cell / 8, depth);
                plain.setDepth(cell % 8, cell / 8, depth);
            }
        }
        x.saveSnapshot();
        x.restoreSnapshot();
        snapshot = new PlainChart(plain);
        for (int change = 0; change < CHANGES; change++) {
            PlainChart before = new PlainChart(plain);
            String what = "change " + change;
            if (below(4) == 0) {
                restoreOrUndo(what);
            } else if (below(4) == 0) {
                text(what, before);
            } else {
                int[] command = command();
                Integer due = onPlain(command);
                keep(due, before);
                agree(what, due, () -> onChart(command));
            }
            if (change % 10 == 9) {
                compare();
            }
        }
        compare();
    }

    private void keep(Object due, PlainChart before) {
        if (due != null) {
            befores.addLast(before);
            if (befores.size() > 8) {
                befores.removeFirst();
            }
        }
    }

    private void agree(String what, Integer due, Check.Call call) {
        if (due != null) {
            Check.same(what, due, call);
            return;
        }
        Object got;
        try {
            got = call.run();
        } catch (RuntimeException e) {
            got = null;
        }
        Check.yes(what + " is refused", got == null);
    }

    private void restoreOrUndo(String what) {
        int kind = below(8);
        if (kind == 0) {
            snapshot = new PlainChart(plain);
            Check.same(what + ": save", plain.ships.size(), x::saveSnapshot);
        } else if (kind == 1) {
            plain = new PlainChart(snapshot);
            befores.clear();
            Check.same(what + ": restore", plain.ships.size(), x::restoreSnapshot);
        } else if (kind < 5 && !befores.isEmpty()) {
            plain = befores.removeLast();
            Check.same(what + ": undo", befores.size(), x::undo);
        } else if (befores.isEmpty()) {
            Check.state(what + ": undo", x::undo);
        }
    }

    private int[] command() {
        int kind = below(16);
        int index = below(10) == 0 ? below(8) - 1 : below(3);
        switch (kind) {
            case 0:
            case 1:
                return new int[] {0, below(8), below(8), below(10)};
            case 2:
            case 3:
                return new int[] {1, below(8), below(8), below(10), below(20) + 6};
            case 4:
                return new int[] {2, index, below(9)};
            case 5:
                return new int[] {3, index};
            case 6:
            case 7:
            case 8:
                return new int[] {4, below(8), below(8), below(8)};
            case 9:
            case 10:
            case 11:
                return new int[] {5, below(6), below(8), below(8)};
            case 12:
                return new int[] {6, index};
            default:
                return new int[] {7, below(3) == 0 ? below(51) : 1 + below(6)};
        }
    }

    private Integer onPlain(int[] c) {
        switch (c[0]) {
            case 0:
                return plain.setDepth(c[1], c[2], c[3]);
            case 1:
                return plain.addLight(c[1], c[2], c[3], c[4]);
            case 2:
                return plain.setPhase(c[1], c[2]);
            case 3:
                return plain.removeLight(c[1]);
            case 4:
                return plain.addShip(c[1], c[2], c[3]);
            case 5:
                return plain.steer(c[1], c[2], c[3]);
            case 6:
                return plain.salvage(c[1]);
            default:
                return c[1] < 1 || c[1] > 48 ? null : (Integer) plain.pass(c[1]);
        }
    }

    private int onChart(int[] c) {
        switch (c[0]) {
            case 0:
                return x.setDepth(c[1], c[2], c[3]);
            case 1:
                return x.addLight(c[1], c[2], c[3], c[4]);
            case 2:
                return x.setPhase(c[1], c[2]);
            case 3:
                return x.removeLight(c[1]);
            case 4:
                return x.addShip(c[1], c[2], c[3]);
            case 5:
                return x.steer(c[1], c[2], c[3]);
            case 6:
                return x.salvage(c[1]);
            default:
                return x.pass(c[1]);
        }
    }

    private static String written(int[] c) {
        switch (c[0]) {
            case 0:
                return "depth " + c[1] + c[2] + "=" + c[3];
            case 1:
                return "light " + c[1] + c[2] + " " + c[3] + "/" + c[4];
            case 2:
                return "phase " + c[1] + "=" + c[2];
            case 3:
                return "douse " + c[1];
            case 4:
                return "ship " + c[1] + c[2] + " " + c[3];
            case 5:
                return "steer " + c[1] + ">" + c[2] + c[3];
            case 6:
                return "salvage " + c[1];
            default:
                return "wait " + c[1];
        }
    }

    private void text(String what, PlainChart before) {
        StringBuilder text = new StringBuilder();
        List<int[]> commands = new ArrayList<>();
        int wanted = 1 + below(4);
        for (int i = 0; i < wanted; i++) {
            int[] command = command();
            if (command[1] >= 0) {
                text.append(text.length() == 0 ? "" : ";").append(written(command));
                commands.add(command);
            }
        }
        if (commands.isEmpty()) {
            return;
        }
        int failed = -1;
        for (int i = 0; i < commands.size() && failed < 0; i++) {
            failed = onPlain(commands.get(i)) == null ? i : -1;
        }
        if (failed < 0) {
            keep(text, before);
            Check.same(what + ": " + text, commands.size(), () -> Check.execute(x, text.toString()));
            return;
        }
        int index = failed;
        plain = before;
        Check.fails(what + ": " + text, UnsupportedOperationException.class, () -> Check.execute(x, text.toString()));
        Check.same(what + ": denial", 8, x::denial);
        Check.same(what + ": command", index, x::denialDetail);
    }

    private void compare() {
        Check.same("minute", plain.minute, x::minute);
        Check.same("tide", PlainChart.tide(plain.minute), x::tide);
        Check.same("undoCount", befores.size(), x::undoCount);
        Check.same("wrecks", plain.wrecks, x::wrecks);
        Check.same("salvaged", plain.salvaged, x::salvaged);
        Check.same("sightings", plain.sightings, x::sightings);
        Check.same("sightingsByLights", plain.sightings, x::sightingsByLights);
        Check.same("lightCount", plain.lights.size(), x::lightCount);
        Check.same("shipCount", plain.ships.size(), x::shipCount);
        compareCells();
        for (int light = 0; light < plain.lights.size(); light++) {
            compareLight(light, plain.lights.get(light));
        }
        compareFewest();
        for (int ship = 0; ship < plain.ships.size(); ship++) {
            compareShip(ship, plain.ships.get(ship));
        }
        compareRanks();
    }

    private void compareCells() {
        int sum = 0;
        for (int cell = 0; cell < 64; cell++) {
            int column = cell % 8;
            int row = cell / 8;
            sum += plain.depths[column][row];
            Check.same("depth", plain.depths[column][row], () -> x.depth(column, row));
            Check.same("water", plain.water(column, row), () -> x.water(column, row));
        }
        Check.same("meanDepth", sum / 64.0, x::meanDepth);
        for (int pair = 0; pair < 4; pair++) {
            int[] at = {below(8), below(8), below(8), below(8)};
            int due = clearance(at);
            Check.same("clearance", due, () -> x.clearance(at[0], at[1], at[2], at[3]));
            Check.same("clearanceByFlooding", due, () -> x.clearanceByFlooding(at[0], at[1], at[2], at[3]));
        }
    }

    private int clearance(int[] at) {
        PlainChart still = new PlainChart(plain);
        still.minute = 0;
        for (int depth = 9; depth > 0; depth--) {
            if (plain.depths[at[0]][at[1]] >= depth && still.way(depth, at[0], at[1], at[2], at[3]) >= 0) {
                return depth;
            }
        }
        return 0;
    }

    private void compareLight(int index, PlainChart.Light light) {
        Check.same("lightOn", index, () -> x.lightOn(light.column, light.row));
        Check.same("beam", plain.beam(light), () -> x.beam(index));
        Check.same("sightingsOf", light.sightings, () -> x.sightingsOf(index));
        int count = 0;
        for (int cell = 0; cell < 64; cell++) {
            int column = cell % 8;
            int row = cell / 8;
            boolean reaches = plain.reaches(light, column, row);
            Check.same("reaches", reaches, () -> x.reaches(index, column, row));
            Check.same("sweeps", plain.sweeps(light, column, row), () -> x.sweeps(index, column, row));
            if (reaches) {
                count++;
                int until = until(light, column, row);
                Check.same("minutesUntilSwept", until, () -> x.minutesUntilSwept(index, column, row));
                Check.same("ByDivision", until, () -> x.minutesUntilSweptByDivision(index, column, row));
            }
        }
        int due = count;
        Check.same("reachedCells", due, () -> x.reachedCells(index));
    }

    private int until(PlainChart.Light light, int column, int row) {
        PlainChart later = new PlainChart(plain);
        while (!later.sweeps(light, column, row)) {
            later.minute++;
        }
        return later.minute - plain.minute;
    }

    private void compareFewest() {
        int lit = lit(-1);
        int fewest = 6;
        for (int set = 0; set < 1 << plain.lights.size(); set++) {
            if (lit(set) == lit) {
                fewest = Math.min(fewest, Integer.bitCount(set));
            }
        }
        int due = fewest;
        Check.same("litCells", lit, x::litCells);
        Check.same("fewestLights", due, x::fewestLights);
        Check.same("fewestLightsBySearch", due, x::fewestLightsBySearch);
    }

    private int lit(int set) {
        int count = 0;
        for (int cell = 0; cell < 64; cell++) {
            boolean isLit = false;
            for (int light = 0; light < plain.lights.size(); light++) {
                isLit |= (set >> light & 1) == 1 && plain.reaches(plain.lights.get(light), cell % 8, cell / 8);
            }
            count += isLit ? 1 : 0;
        }
        return count;
    }

    private void compareShip(int index, PlainChart.Ship ship) {
        String goal = ship.goal == null ? "" : ">" + ship.goal[0] + ship.goal[1];
        String due = "" + ship.column + ship.row + "d" + ship.draught + (ship.wrecked ? "!" : "") + goal + "~" + ship.dark;
        Check.same("writeShip", due, () -> Check.line(x, x.writeShip(index)));
        Check.same("seenBy", plain.seen(ship), () -> x.seenBy(index));
        for (int place = 0; place < 6; place++) {
            int column = below(8);
            int row = below(8);
            int length = plain.way(ship.draught, ship.column, ship.row, column, row);
            agree("wayLength", length < 0 ? null : (Integer) length, () -> x.wayLength(index, column, row));
            agree("ByRounds", length < 0 ? null : (Integer) length, () -> x.wayLengthByRounds(index, column, row));
        }
        if (ship.goal != null) {
            PlainChart later = new PlainChart(plain);
            PlainChart.Ship there = later.ships.get(index);
            int minutes = 0;
            while (minutes < 48 && there.goal != null) {
                later.pass(1);
                minutes++;
            }
            Integer arrival = there.goal == null && !there.wrecked ? (Integer) minutes : null;
            agree("minutesUntilArrival", arrival, () -> x.minutesUntilArrival(index));
        }
    }

    private void compareRanks() {
        List<Integer> order = new ArrayList<>();
        for (int ship = 0; ship < plain.ships.size(); ship++) {
            order.add(ship);
        }
        order.sort((a, b) -> {
            PlainChart.Ship one = plain.ships.get(a);
            PlainChart.Ship two = plain.ships.get(b);
            return one.dark != two.dark ? two.dark - one.dark : two.draught - one.draught;
        });
        int seen = 0;
        for (int rank = 0; rank < order.size(); rank++) {
            int r = rank;
            Check.same("shipByDarkness", order.get(r), () -> x.shipByDarkness(r));
            seen += plain.seen(plain.ships.get(rank)) > 0 ? 1 : 0;
        }
        if (!order.isEmpty()) {
            Check.same("seenShare", (float) seen / (float) order.size(), x::seenShare);
        }
        List<Integer> cells = new ArrayList<>();
        for (int cell = 0; cell < 64; cell++) {
            cells.add(cell);
        }
        cells.sort((a, b) -> plain.depths[a % 8][a / 8] - plain.depths[b % 8][b / 8]);
        for (int rank = 0; rank < 64; rank += 1 + below(9)) {
            int r = rank;
            Check.same("rowByDepth", cells.get(r) / 8, () -> x.rowByDepth(r));
            Check.same("columnByDepth", cells.get(r) % 8, () -> x.columnByDepth(r));
        }
    }
}
