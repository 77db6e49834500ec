/**
 * The boundary cases of the promises 1 to 24, each with a test of its own. The number in a test's name is the
 * promise's.
 */
public final class EdgesOfDepthsAndLightsTest {
    public static void main(String[] args) throws Exception {
        Edge.runAll(EdgesOfDepthsAndLightsTest.class, "promise");
    }

    // ---- a new object

    private static void promise1WithoutLights() {
        BeamChart x = new BeamChart();
        Check.same("lightCount", 0, x::lightCount);
        Check.same("litCells", 0, x::litCells);
        Check.same("fewestLights", 0, x::fewestLights);
        Check.index("beam", () -> x.beam(0));
        Check.noElement("lightOn", () -> x.lightOn(0, 0));
    }

    private static void promise1WithoutShips() {
        BeamChart x = new BeamChart();
        Check.same("shipCount", 0, x::shipCount);
        Check.index("columnOf", () -> x.columnOf(0));
        Check.noElement("shipByDarkness", () -> x.shipByDarkness(0));
        Check.fails("seenShare", ArithmeticException.class, x::seenShare);
    }

    private static void promise1AtMinuteZero() {
        BeamChart x = new BeamChart();
        Check.same("minute", 0, x::minute);
        Check.same("tide", 0, x::tide);
        Check.state("undo", x::undo);
    }

    private static void promise1ObjectsAreApart() {
        BeamChart x = new BeamChart();
        BeamChart y = new BeamChart();
        x.setDepth(0, 0, 0);
        x.addLight(0, 0, 1, 8);
        x.pass(1);
        x.saveSnapshot();
        Check.same("depth of another object", 5, () -> y.depth(0, 0));
        Check.same("lights of another object", 0, y::lightCount);
        Check.state("snapshot of another object", y::restoreSnapshot);
    }

    // ---- setDepth

    private static void promise2NoSuchCell() {
        Edge.noSuchCell("setDepth", (x, column, row) -> x.setDepth(column, row, 1));
    }

    private static void promise2DepthOutOfRange() {
        BeamChart x = new BeamChart();
        for (int depth : new int[] {-1, 10, 11, -5, Integer.MIN_VALUE, Integer.MAX_VALUE}) {
            Check.argument("depth " + depth, () -> x.setDepth(0, 0, depth));
        }
        Check.same("least", 5, () -> x.setDepth(0, 0, 0));
        Check.same("greatest", 0, () -> x.setDepth(0, 0, 9));
    }

    private static void promise2PresentDepth() {
        BeamChart x = new BeamChart();
        Check.denied("the depth at first", x, 7, 5, () -> x.setDepth(7, 7, 5));
        x.setDepth(7, 7, 0);
        Check.denied("land", x, 7, 0, () -> x.setDepth(7, 7, 0));
        x.setDepth(7, 7, 9);
        Check.denied("the greatest depth", x, 7, 9, () -> x.setDepth(7, 7, 9));
    }

    private static void promise2CellBeforeDepth() {
        BeamChart x = new BeamChart();
        Check.index("both wrong", () -> x.setDepth(8, 0, 10));
        Check.index("both wrong", () -> x.setDepth(0, -1, -1));
    }

    private static void promise2ShipsAreNotAffectedBefore() {
        BeamChart x = new BeamChart();
        x.addShip(0, 0, 5);
        x.steer(0, 3, 0);
        x.setDepth(0, 0, 0);
        x.setDepth(3, 0, 0);
        Check.same("afloat on land, with its goal on land", "00d5>30~0", () -> Edge.ship(x, 0));
        Check.same("no wreck", 0, x::wrecks);
    }

    private static void promise2UnderALight() {
        BeamChart x = new BeamChart();
        x.addLight(0, 0, 1, 8);
        Check.same("the depth under a light", 5, () -> x.setDepth(0, 0, 0));
        Check.same("the light stays", 0, () -> x.lightOn(0, 0));
    }

    // ---- depth, water and tide

    private static void promise3NoSuchCell() {
        Edge.noSuchCell("depth", (x, column, row) -> x.depth(column, row));
    }

    private static void promise3LeastAndGreatest() {
        BeamChart x = new BeamChart();
        x.setDepth(0, 0, 0);
        x.setDepth(7, 7, 9);
        x.pass(4);
        Check.same("least", 0, () -> x.depth(0, 0));
        Check.same("greatest, without the tide", 9, () -> x.depth(7, 7));
    }

    private static void promise4NoSuchCell() {
        Edge.noSuchCell("water", (x, column, row) -> x.water(column, row));
    }

    private static void promise4LandAndGreatest() {
        BeamChart x = new BeamChart();
        x.setDepth(0, 0, 0);
        x.setDepth(7, 7, 9);
        Check.same("land in the ebb", 0, () -> x.water(0, 0));
        Check.same("greatest depth in the ebb", 9, () -> x.water(7, 7));
        x.pass(4);
        Check.same("land in the flood", 0, () -> x.water(0, 0));
        Check.same("greatest depth in the flood", 11, () -> x.water(7, 7));
    }

    private static void promise5FromZeroToTwo() {
        BeamChart x = new BeamChart();
        int sum = 0;
        for (int minute = 0; minute < 24; minute++) {
            int tide = x.tide();
            Check.yes("tide " + tide, tide >= 0 && tide <= 2);
            sum += tide;
            x.pass(1);
        }
        int twice = sum;
        Check.same("two cycles", 24, () -> twice);
    }

    private static void promise5AfterTheTwelfthMinute() {
        BeamChart x = new BeamChart();
        x.pass(11);
        Check.same("minute 11", 0, x::tide);
        x.pass(1);
        Check.same("minute 12", 0, x::tide);
        x.pass(4);
        Check.same("minute 16", 2, x::tide);
        x.pass(48);
        Check.same("minute 64", 2, x::tide);
    }

    // ---- ranks

    private static void promise6RankOutOfRange() {
        BeamChart x = new BeamChart();
        for (int rank : new int[] {-1, 64, 65, Integer.MIN_VALUE, Integer.MAX_VALUE}) {
            Check.noElement("column at the rank " + rank, () -> x.columnByDepth(rank));
        }
        Check.same("rank 0", 0, () -> x.columnByDepth(0));
        Check.same("rank 63", 7, () -> x.columnByDepth(63));
    }

    private static void promise6EqualDepths() {
        BeamChart x = new BeamChart();
        for (int rank = 0; rank < 64; rank++) {
            int r = rank;
            Check.same("all are equal, rank " + r, r % 8, () -> x.columnByDepth(r));
        }
        x.setDepth(6, 1, 4);
        x.setDepth(2, 1, 4);
        x.setDepth(7, 0, 4);
        Check.same("the lower row", 7, () -> x.columnByDepth(0));
        Check.same("then the lower column", 2, () -> x.columnByDepth(1));
        Check.same("then the higher one", 6, () -> x.columnByDepth(2));
        Check.same("then the deeper ones", 0, () -> x.columnByDepth(3));
    }

    private static void promise6ShallowestAndDeepest() {
        BeamChart x = new BeamChart();
        x.setDepth(7, 7, 0);
        x.setDepth(1, 0, 9);
        Check.same("land comes first", 7, () -> x.columnByDepth(0));
        Check.same("the depth 9 comes last", 1, () -> x.columnByDepth(63));
    }

    private static void promise7RankOutOfRange() {
        BeamChart x = new BeamChart();
        for (int rank : new int[] {-1, 64, 65, Integer.MIN_VALUE, Integer.MAX_VALUE}) {
            Check.noElement("row at the rank " + rank, () -> x.rowByDepth(rank));
        }
        Check.same("rank 0", 0, () -> x.rowByDepth(0));
        Check.same("rank 63", 7, () -> x.rowByDepth(63));
    }

    private static void promise7EqualDepths() {
        BeamChart x = new BeamChart();
        for (int rank = 0; rank < 64; rank++) {
            int r = rank;
            Check.same("all are equal, rank " + r, r / 8, () -> x.rowByDepth(r));
        }
        x.setDepth(6, 1, 4);
        x.setDepth(2, 3, 4);
        x.setDepth(7, 0, 4);
        Check.same("the lower row", 0, () -> x.rowByDepth(0));
        Check.same("then the next one", 1, () -> x.rowByDepth(1));
        Check.same("then the last one", 3, () -> x.rowByDepth(2));
    }

    private static void promise7ShallowestAndDeepest() {
        BeamChart x = new BeamChart();
        x.setDepth(7, 7, 0);
        x.setDepth(0, 1, 9);
        Check.same("land comes first", 7, () -> x.rowByDepth(0));
        Check.same("the depth 9 comes last", 1, () -> x.rowByDepth(63));
    }

    // ---- clearance

    private static void promise8NoSuchFirstCell() {
        Edge.noSuchCell("clearance from", (x, column, row) -> x.clearance(column, row, 3, 3));
    }

    private static void promise8NoSuchSecondCell() {
        Edge.noSuchCell("clearance to", (x, column, row) -> x.clearance(3, 3, column, row));
    }

    private static void promise8SameCell() {
        sameCell("clearance", (x, c, r, toC, toR) -> x.clearance(c, r, toC, toR));
    }

    private static void promise8NotConnected() {
        notConnected("clearance", (x, c, r, toC, toR) -> x.clearance(c, r, toC, toR));
    }

    private static void promise8BothCellsIncluded() {
        bothCellsIncluded("clearance", (x, c, r, toC, toR) -> x.clearance(c, r, toC, toR));
    }

    private static void promise8EachDepth() {
        eachDepth("clearance", (x, c, r, toC, toR) -> x.clearance(c, r, toC, toR));
    }

    private static void promise9NoSuchFirstCell() {
        Edge.noSuchCell("clearanceByFlooding from", (x, column, row) -> x.clearanceByFlooding(column, row, 3, 3));
    }

    private static void promise9NoSuchSecondCell() {
        Edge.noSuchCell("clearanceByFlooding to", (x, column, row) -> x.clearanceByFlooding(3, 3, column, row));
    }

    private static void promise9SameCell() {
        sameCell("flooding", (x, c, r, toC, toR) -> x.clearanceByFlooding(c, r, toC, toR));
    }

    private static void promise9NotConnected() {
        notConnected("flooding", (x, c, r, toC, toR) -> x.clearanceByFlooding(c, r, toC, toR));
    }

    private static void promise9BothCellsIncluded() {
        bothCellsIncluded("flooding", (x, c, r, toC, toR) -> x.clearanceByFlooding(c, r, toC, toR));
    }

    private static void promise9EachDepth() {
        eachDepth("flooding", (x, c, r, toC, toR) -> x.clearanceByFlooding(c, r, toC, toR));
    }

    private static void promise8CornersAgainAndAgain() {
        corners("clearance", (x, c, r, toC, toR) -> x.clearance(c, r, toC, toR));
    }

    private static void promise9CornersAgainAndAgain() {
        corners("flooding", (x, c, r, toC, toR) -> x.clearanceByFlooding(c, r, toC, toR));
    }

    private interface Clearance {
        int run(BeamChart x, int column, int row, int toColumn, int toRow);
    }

    // No call may rest on what the call before it found.
    private static void corners(String what, Clearance call) {
        int[][] corners = {{0, 0, 1, 0, 0, 1}, {7, 0, 6, 0, 7, 1}, {0, 7, 1, 7, 0, 6}, {7, 7, 6, 7, 7, 6}};
        BeamChart x = new BeamChart();
        for (int[] corner : corners) {
            String from = what + " from " + corner[0] + "," + corner[1];
            Check.same(from, 5, () -> call.run(x, corner[0], corner[1], 3, 4));
            x.setDepth(corner[2], corner[3], 2);
            x.setDepth(corner[4], corner[5], 1);
            Check.same(from + " over the depth 2", 2, () -> call.run(x, corner[0], corner[1], 3, 4));
            x.setDepth(corner[2], corner[3], 0);
            Check.same(from + " over the depth 1", 1, () -> call.run(x, 3, 4, corner[0], corner[1]));
            x.setDepth(corner[4], corner[5], 0);
            Check.same(from + ", locked", 0, () -> call.run(x, corner[0], corner[1], 3, 4));
            Check.same(from + " to itself", 5, () -> call.run(x, corner[0], corner[1], corner[0], corner[1]));
        }
        for (int[] corner : corners) {
            BeamChart y = new BeamChart();
            String to = what + " from 4,4 to " + corner[0] + "," + corner[1];
            y.setDepth(4, 4, 2);
            Check.same(to, 2, () -> call.run(y, 4, 4, corner[0], corner[1]));
            y.setDepth(4, 4, 5);
            y.setDepth(corner[2], corner[3], 1);
            y.setDepth(corner[4], corner[5], 1);
            Check.same(to + ", when all has changed", 1, () -> call.run(y, 4, 4, corner[0], corner[1]));
        }
    }

    // The depth of the cell if both are the same, whatever lies round it.
    private static void sameCell(String what, Clearance call) {
        BeamChart x = new BeamChart();
        for (int depth = 9; depth >= 0; depth--) {
            if (depth != 5) {
                x.setDepth(7, 0, depth);
                int due = depth;
                Check.same(what + " in the depth " + depth, due, () -> call.run(x, 7, 0, 7, 0));
            }
        }
        x.setDepth(7, 0, 5);
        x.setDepth(6, 0, 0);
        x.setDepth(7, 1, 0);
        Check.same(what + " of a locked cell", 5, () -> call.run(x, 7, 0, 7, 0));
    }

    // All depths are at least 0, so 0 is the least answer.
    private static void notConnected(String what, Clearance call) {
        BeamChart x = new BeamChart();
        x.setDepth(0, 1, 0);
        x.setDepth(1, 0, 0);
        Check.same(what + " out of a locked cell", 0, () -> call.run(x, 0, 0, 7, 7));
        Check.same(what + " into a locked cell", 0, () -> call.run(x, 7, 7, 0, 0));
        Check.same(what + " between lands", 0, () -> call.run(x, 1, 0, 0, 1));
        Check.same(what + " to land", 0, () -> call.run(x, 0, 0, 1, 0));
        Check.same(what + " from land", 0, () -> call.run(x, 0, 1, 0, 2));
        x.setDepth(0, 1, 1);
        Check.same(what + " with the least depth between", 1, () -> call.run(x, 0, 0, 7, 7));
    }

    private static void bothCellsIncluded(String what, Clearance call) {
        BeamChart x = new BeamChart();
        x.setDepth(0, 0, 2);
        x.setDepth(7, 7, 3);
        Check.same(what + " from the shallower one", 2, () -> call.run(x, 0, 0, 4, 4));
        Check.same(what + " to the shallower one", 2, () -> call.run(x, 4, 4, 0, 0));
        Check.same(what + " of both", 2, () -> call.run(x, 7, 7, 0, 0));
        Check.same(what + " of the other one alone", 3, () -> call.run(x, 7, 7, 4, 4));
        Check.same(what + " over neither", 5, () -> call.run(x, 1, 0, 6, 7));
    }

    // One shallow cell in a strait tells the answer, from 0 to 9.
    private static void eachDepth(String what, Clearance call) {
        for (int depth = 0; depth <= 9; depth++) {
            BeamChart x = new BeamChart();
            for (int column = 0; column < 8; column++) {
                x.setDepth(column, 1, 0);
                x.setDepth(column, 0, 9);
            }
            if (depth != 9) {
                x.setDepth(3, 0, depth);
            }
            int due = depth;
            Check.same(what + " over the depth " + depth, due, () -> call.run(x, 0, 0, 7, 0));
            Check.same(what + " before it", 9, () -> call.run(x, 0, 0, 2, 0));
        }
    }

    // ---- addLight

    private static void promise10NoSuchCell() {
        Edge.noSuchCell("addLight", (x, column, row) -> x.addLight(column, row, 1, 8));
    }

    private static void promise10RangeOutOfRange() {
        BeamChart x = new BeamChart();
        for (int range : new int[] {-1, 0, 10, 11, Integer.MIN_VALUE, Integer.MAX_VALUE}) {
            Check.argument("range " + range, () -> x.addLight(0, 0, range, 8));
        }
        Check.same("least", 0, () -> x.addLight(0, 0, 1, 8));
        Check.same("greatest", 1, () -> x.addLight(0, 1, 9, 8));
    }

    private static void promise10PeriodOutOfRange() {
        BeamChart x = new BeamChart();
        for (int period : new int[] {-8, 0, 7, 25, 26, Integer.MIN_VALUE, Integer.MAX_VALUE}) {
            Check.argument("period " + period, () -> x.addLight(0, 0, 1, period));
        }
        Check.same("least", 0, () -> x.addLight(0, 0, 1, 8));
        Check.same("greatest", 1, () -> x.addLight(0, 1, 1, 24));
    }

    private static void promise10SixLights() {
        BeamChart x = new BeamChart();
        for (int light = 0; light < 6; light++) {
            int due = light;
            Check.same("light " + light, due, () -> x.addLight(7 - due, 7, 1, 8));
        }
        Check.denied("one more", x, 1, 6, () -> x.addLight(0, 0, 1, 8));
        x.removeLight(5);
        Check.same("when one is gone", 5, () -> x.addLight(0, 0, 1, 8));
    }

    private static void promise10LightOnTheCell() {
        BeamChart x = Edge.lights(5);
        Check.denied("the first one", x, 2, 0, () -> x.addLight(0, 0, 1, 8));
        Check.denied("the last one", x, 2, 4, () -> x.addLight(4, 0, 1, 8));
        Check.same("beside it", 5, () -> x.addLight(5, 0, 1, 8));
    }

    private static void promise10LimitBeforeTheCell() {
        BeamChart x = Edge.lights(6);
        Check.denied("the limit, with a light on the cell", x, 1, 6, () -> x.addLight(5, 0, 1, 8));
    }

    private static void promise10RangeBeforeDenials() {
        BeamChart x = Edge.lights(6);
        Check.argument("range, with six lights", () -> x.addLight(6, 0, 0, 8));
        Check.argument("period, with a light on the cell", () -> x.addLight(0, 0, 1, 25));
        Check.noElement("no denial", x::denial);
    }

    private static void promise10CellBeforeRange() {
        BeamChart x = Edge.lights(6);
        Check.index("all wrong", () -> x.addLight(8, 0, 0, 0));
        Check.index("all wrong", () -> x.addLight(0, -1, 10, 25));
    }

    private static void promise10OnLandOrOnAShip() {
        BeamChart x = new BeamChart();
        x.setDepth(0, 0, 0);
        x.addShip(7, 7, 5);
        Check.same("on land", 0, () -> x.addLight(0, 0, 1, 8));
        Check.same("where a ship is", 1, () -> x.addLight(7, 7, 1, 8));
    }

    private static void promise10InPlaceOfARemovedLight() {
        BeamChart x = new BeamChart();
        x.addLight(0, 0, 9, 24);
        x.setPhase(0, 5);
        x.addShip(0, 0, 5);
        x.pass(1);
        x.removeLight(0);
        Check.same("the next one", 0, () -> x.addLight(7, 7, 1, 8));
        Check.same("has made no sightings", 0, () -> x.sightingsOf(0));
        Check.same("has the phase 0, a minute by 8", 1, () -> x.beam(0));
        Check.same("has its own range", 3, () -> x.reachedCells(0));
    }

    // ---- setPhase

    private static void promise11NoSuchLight() {
        Edge.noSuchLight("setPhase", (x, light) -> x.setPhase(light, 1));
    }

    private static void promise11PhaseOutOfRange() {
        BeamChart x = Edge.lights(1);
        for (int phase : new int[] {-1, 8, 9, Integer.MIN_VALUE, Integer.MAX_VALUE}) {
            Check.argument("phase " + phase, () -> x.setPhase(0, phase));
        }
        Check.same("greatest", 0, () -> x.setPhase(0, 7));
        Check.same("least", 7, () -> x.setPhase(0, 0));
    }

    private static void promise11PresentPhase() {
        BeamChart x = Edge.lights(2);
        Check.denied("the phase at first", x, 7, 0, () -> x.setPhase(1, 0));
        x.setPhase(1, 7);
        Check.denied("the greatest phase", x, 7, 7, () -> x.setPhase(1, 7));
        Check.same("of another light", 0, () -> x.setPhase(0, 7));
    }

    private static void promise11LightBeforePhase() {
        BeamChart x = Edge.lights(1);
        Check.index("both wrong", () -> x.setPhase(1, 8));
        Check.index("both wrong", () -> x.setPhase(-1, -1));
    }

    // ---- removeLight and lightCount

    private static void promise12NoSuchLight() {
        Edge.noSuchLight("removeLight", (x, light) -> x.removeLight(light));
    }

    private static void promise12WithAndWithoutSightings() {
        BeamChart x = Edge.lights(2);
        x.addShip(0, 0, 5);
        Check.same("none", 0, () -> x.removeLight(1));
        x.pass(2);
        Check.same("two", 2, () -> x.removeLight(0));
        Check.same("the last one is gone", 0, x::lightCount);
    }

    private static void promise13FromZeroToSix() {
        BeamChart x = new BeamChart();
        for (int count = 0; count < 6; count++) {
            int due = count;
            Check.same("so many", due, x::lightCount);
            x.addLight(count, 0, 1, 8);
        }
        Check.fails("one more", UnsupportedOperationException.class, () -> x.addLight(6, 0, 1, 8));
        Check.same("full", 6, x::lightCount);
        for (int count = 5; count >= 0; count--) {
            int due = count;
            x.removeLight(count / 2);
            Check.same("fewer", due, x::lightCount);
        }
    }

    // ---- lightOn

    private static void promise14NoSuchCell() {
        Edge.noSuchCell("lightOn", (x, column, row) -> x.lightOn(column, row));
    }

    private static void promise14NoLightOnIt() {
        BeamChart x = new BeamChart();
        Check.noElement("no lights", () -> x.lightOn(0, 0));
        x.addLight(1, 0, 9, 8);
        Check.noElement("a light beside it", () -> x.lightOn(0, 0));
        Check.noElement("column and row exchanged", () -> x.lightOn(0, 1));
        x.removeLight(0);
        Check.noElement("it is removed", () -> x.lightOn(1, 0));
    }

    private static void promise14FirstAndLastLight() {
        BeamChart x = Edge.lights(6);
        Check.same("first", 0, () -> x.lightOn(0, 0));
        Check.same("last", 5, () -> x.lightOn(5, 0));
    }

    // ---- beam

    private static void promise15NoSuchLight() {
        Edge.noSuchLight("beam", (x, light) -> x.beam(light));
    }

    private static void promise15AfterTheLastSector() {
        BeamChart x = new BeamChart();
        x.addLight(0, 0, 1, 8);
        x.setPhase(0, 7);
        Check.same("sector 7", 7, () -> x.beam(0));
        x.pass(1);
        Check.same("sector 0 after it", 0, () -> x.beam(0));
        x.pass(7);
        Check.same("sector 7 at the end of the period", 7, () -> x.beam(0));
    }

    // ---- sectorOf

    private static void promise16NoSuchCell() {
        Edge.noSuchCell("sectorOf", (x, column, row) -> x.sectorOf(0, column, row));
    }

    private static void promise16NoSuchLight() {
        Edge.noSuchLight("sectorOf", (x, light) -> x.sectorOf(light, 7, 7));
    }

    private static void promise16CellOfTheLight() {
        BeamChart x = Edge.lights(2);
        Check.noElement("its own cell", () -> x.sectorOf(0, 0, 0));
        Check.same("the cell of another light", 4, () -> x.sectorOf(1, 0, 0));
        Check.index("no light with its cell", () -> x.sectorOf(2, 0, 0));
    }

    private static void promise16NotReached() {
        BeamChart x = new BeamChart();
        x.addLight(0, 0, 1, 8);
        x.setDepth(1, 1, 0);
        Check.same("beyond the range and behind land", 1, () -> x.sectorOf(0, 7, 7));
    }

    // ---- reaches and sweeps

    private static void promise17NoSuchCell() {
        Edge.noSuchCell("reaches", (x, column, row) -> x.reaches(0, column, row));
    }

    private static void promise17NoSuchLight() {
        Edge.noSuchLight("reaches", (x, light) -> x.reaches(light, 7, 7));
    }

    private static void promise17CellOfTheLight() {
        BeamChart x = new BeamChart();
        x.addLight(7, 0, 1, 8);
        Check.same("its own cell", true, () -> x.reaches(0, 7, 0));
        x.setDepth(7, 0, 0);
        Check.same("its own cell, which is land", true, () -> x.reaches(0, 7, 0));
    }

    private static void promise17JustWithinTheRange() {
        for (int range = 1; range <= 7; range++) {
            BeamChart x = new BeamChart();
            x.addLight(0, 0, range, 8);
            int r = range;
            Check.same("range " + r, true, () -> x.reaches(0, r, 0));
            Check.same("one row more", false, () -> x.reaches(0, r, 1));
            if (r < 7) {
                Check.same("one column more", false, () -> x.reaches(0, r + 1, 0));
            }
        }
    }

    private static void promise18NoSuchCell() {
        Edge.noSuchCell("sweeps", (x, column, row) -> x.sweeps(0, column, row));
    }

    private static void promise18NoSuchLight() {
        Edge.noSuchLight("sweeps", (x, light) -> x.sweeps(light, 7, 7));
    }

    private static void promise18CellOfTheLight() {
        BeamChart x = new BeamChart();
        x.addLight(7, 7, 1, 24);
        x.setPhase(0, 3);
        Check.same("its own cell", true, () -> x.sweeps(0, 7, 7));
        x.setDepth(7, 7, 0);
        Check.same("its own cell, which is land", true, () -> x.sweeps(0, 7, 7));
    }

    private static void promise18FirstAndLastMinuteOfASector() {
        BeamChart x = new BeamChart();
        x.addLight(0, 0, 9, 24);
        boolean[] due = {false, false, false, true, true, true, false};
        for (int minute = 0; minute < due.length; minute++) {
            boolean now = due[minute];
            Check.same("sector 1 at minute " + minute, now, () -> x.sweeps(0, 1, 1));
            x.pass(1);
        }
    }

    // ---- minutesUntilSwept

    private static void promise19NoSuchCell() {
        Edge.noSuchCell("minutesUntilSwept", (x, column, row) -> x.minutesUntilSwept(0, column, row));
    }

    private static void promise19NoSuchLight() {
        Edge.noSuchLight("minutesUntilSwept", (x, light) -> x.minutesUntilSwept(light, 7, 5));
    }

    private static void promise19NotReached() {
        notReached("minutesUntilSwept", (x, column, row) -> x.minutesUntilSwept(0, column, row));
    }

    private static void promise19Now() {
        now("minutesUntilSwept", (x, column, row) -> x.minutesUntilSwept(0, column, row));
    }

    private static void promise19Longest() {
        longest("minutesUntilSwept", (x, column, row) -> x.minutesUntilSwept(0, column, row));
    }

    private static void promise19EachPeriod() {
        for (int period = 8; period <= 24; period++) {
            eachPeriod(period, "minutesUntilSwept", (x, column, row) -> x.minutesUntilSwept(0, column, row));
        }
    }

    private static void promise20NoSuchCell() {
        Edge.noSuchCell("byDivision", (x, column, row) -> x.minutesUntilSweptByDivision(0, column, row));
    }

    private static void promise20NoSuchLight() {
        Edge.noSuchLight("byDivision", (x, light) -> x.minutesUntilSweptByDivision(light, 7, 5));
    }

    private static void promise20NotReached() {
        notReached("byDivision", (x, column, row) -> x.minutesUntilSweptByDivision(0, column, row));
    }

    private static void promise20Now() {
        now("byDivision", (x, column, row) -> x.minutesUntilSweptByDivision(0, column, row));
    }

    private static void promise20Longest() {
        longest("byDivision", (x, column, row) -> x.minutesUntilSweptByDivision(0, column, row));
    }

    private static void promise20EachPeriod() {
        for (int period = 8; period <= 24; period++) {
            eachPeriod(period, "byDivision", (x, column, row) -> x.minutesUntilSweptByDivision(0, column, row));
        }
    }

    private static void notReached(String what, Edge.CellCall call) {
        BeamChart x = new BeamChart();
        x.addLight(0, 0, 3, 8);
        Check.same(what + ": just reached", 0, () -> call.run(x, 3, 0));
        Check.noElement(what + ": beyond the range, with the beam on it", () -> call.run(x, 4, 0));
        x.setDepth(1, 0, 0);
        Check.noElement(what + ": behind land, with the beam on it", () -> call.run(x, 3, 0));
        Check.same(what + ": the land", 0, () -> call.run(x, 1, 0));
        Check.noElement(what + ": beyond the range", () -> call.run(x, 0, 4));
    }

    private static void now(String what, Edge.CellCall call) {
        BeamChart x = new BeamChart();
        x.addLight(3, 3, 9, 8);
        Check.same(what + " now", 0, () -> call.run(x, 4, 3));
        Check.same(what + " on its own cell", 0, () -> call.run(x, 3, 3));
        x.pass(1);
        Check.same(what + " on its own cell, later", 0, () -> call.run(x, 3, 3));
        Check.same(what + " on the next sector", 0, () -> call.run(x, 4, 4));
    }

    // The beam has just left the sector, and must go round, over the sector 7.
    private static void longest(String what, Edge.CellCall call) {
        BeamChart x = new BeamChart();
        x.addLight(3, 3, 9, 24);
        x.pass(2);
        Check.same(what + " in the last minute of the sector", 0, () -> call.run(x, 4, 3));
        x.pass(1);
        Check.same(what + " in the minute after it", 21, () -> call.run(x, 4, 3));
        x.pass(20);
        Check.same(what + " in the minute before it", 1, () -> call.run(x, 4, 3));
        x.pass(1);
        Check.same(what + " in the first minute of the sector", 0, () -> call.run(x, 4, 3));
    }

    private static void eachPeriod(int period, String what, Edge.CellCall call) {
        int[][] steps = {{1, 0}, {1, 1}, {0, 1}, {-1, 1}, {-1, 0}, {-1, -1}, {0, -1}, {1, -1}};
        BeamChart x = new BeamChart();
        x.addLight(3, 3, 2, period);
        x.setPhase(0, period % 7 + 1);
        for (int minute = 0; minute < 2 * period; minute++) {
            for (int sector = 0; sector < 8; sector++) {
                int due = 0;
                while ((period % 7 + 1 + 8 * (minute + due) / period) % 8 != sector) {
                    due++;
                }
                int minutes = due;
                int[] step = steps[sector];
                Check.same(what + " with the period " + period + " at minute " + minute, minutes,
                    () -> call.run(x, 3 + step[0], 3 + step[1]));
            }
            x.pass(1);
        }
    }

    // ---- reachedCells and litCells

    private static void promise21NoSuchLight() {
        Edge.noSuchLight("reachedCells", (x, light) -> x.reachedCells(light));
    }

    private static void promise21FewestAndMost() {
        BeamChart x = new BeamChart();
        x.addLight(0, 7, 1, 8);
        Check.same("range 1 in a corner", 3, () -> x.reachedCells(0));
        x.addLight(3, 3, 9, 8);
        Check.same("all cells", 64, () -> x.reachedCells(1));
        x.setDepth(3, 3, 0);
        Check.same("its own cell is reached as land", 64, () -> x.reachedCells(1));
        for (int column = 2; column <= 4; column++) {
            for (int row = 2; row <= 4; row++) {
                if (column != 3 || row != 3) {
                    x.setDepth(column, row, 0);
                }
            }
        }
        Check.same("land on all sides", 9, () -> x.reachedCells(1));
    }

    private static void promise22NoneAndAll() {
        BeamChart x = new BeamChart();
        Check.same("no lights", 0, x::litCells);
        x.addLight(3, 3, 9, 8);
        Check.same("all cells", 64, x::litCells);
        x.addLight(4, 4, 9, 8);
        Check.same("each cell counts once", 64, x::litCells);
        x.removeLight(0);
        x.removeLight(0);
        Check.same("no lights any more", 0, x::litCells);
    }

    private static void promise22WhateverTheBeam() {
        BeamChart x = new BeamChart();
        x.addLight(0, 0, 1, 8);
        for (int minute = 0; minute < 8; minute++) {
            Check.same("reached, not swept", 3, x::litCells);
            x.pass(1);
        }
    }

    // ---- fewestLights

    private static void promise23WithoutLights() {
        BeamChart x = Edge.lights(1);
        x.removeLight(0);
        Check.same("no lights any more", 0, x::fewestLights);
    }

    private static void promise23OneIsEnough() {
        Check.same("of six", 1, oneIsEnough()::fewestLights);
    }

    private static void promise23AnyOneCanBeLeftOut() {
        for (int spare = 0; spare < 3; spare++) {
            Check.same("all but the light " + spare, 2, oneIsSpare(spare)::fewestLights);
        }
    }

    private static void promise24AnyOneCanBeLeftOut() {
        for (int spare = 0; spare < 3; spare++) {
            Check.same("all but the light " + spare, 2, oneIsSpare(spare)::fewestLightsBySearch);
        }
    }

    private static void promise23RemovedLightsDoNotCount() {
        Check.same("one is gone that was enough", 2, oneThatWasEnoughIsGone()::fewestLights);
    }

    private static void promise24RemovedLightsDoNotCount() {
        Check.same("one is gone that was enough", 2, oneThatWasEnoughIsGone()::fewestLightsBySearch);
    }

    private static BeamChart oneThatWasEnoughIsGone() {
        BeamChart x = new BeamChart();
        x.addLight(0, 0, 1, 8);
        x.addLight(5, 5, 1, 8);
        x.addLight(2, 2, 9, 8);
        Check.same("one is enough", 1, x::fewestLights);
        Check.same("one is enough", 1, x::fewestLightsBySearch);
        x.removeLight(2);
        return x;
    }

    /** Two lights far apart that do not reach the cell 0,0, and a small one beside the first of them. */
    private static BeamChart oneIsSpare(int spare) {
        BeamChart x = new BeamChart();
        int[][] others = {{2, 2, 2}, {6, 6, 2}};
        int next = 0;
        for (int light = 0; light < 3; light++) {
            if (light == spare) {
                x.addLight(2, 3, 1, 8);
            } else {
                x.addLight(others[next][0], others[next][1], others[next][2], 8);
                next++;
            }
        }
        return x;
    }

    private static void promise23AllAreNeeded() {
        Check.same("of six", 6, allAreNeeded()::fewestLights);
    }

    private static void promise24WithoutLights() {
        BeamChart x = Edge.lights(1);
        x.removeLight(0);
        Check.same("no lights any more", 0, x::fewestLightsBySearch);
    }

    private static void promise24OneIsEnough() {
        Check.same("of six", 1, oneIsEnough()::fewestLightsBySearch);
    }

    private static void promise24AllAreNeeded() {
        Check.same("of six", 6, allAreNeeded()::fewestLightsBySearch);
    }

    private static BeamChart oneIsEnough() {
        BeamChart x = Edge.lights(5);
        x.addLight(3, 3, 9, 8);
        return x;
    }

    private static BeamChart allAreNeeded() {
        BeamChart x = new BeamChart();
        for (int light = 0; light < 6; light++) {
            x.addLight(light + 1, 7 - light, 1, 8);
        }
        return x;
    }
}
