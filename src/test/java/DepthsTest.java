/** Promises 1 to 9. */
public final class DepthsTest {
    private static final int[] WRONG = {-1, 8, Integer.MIN_VALUE, Integer.MAX_VALUE};

    public static void main(String[] args) {
        promise1NewObject();
        promise2SetDepth();
        promise2SetDepthLeavesShips();
        promise3Depth();
        promise4Water();
        promise5Tide();
        promises6And7Ranks();
        promises8And9Clearance();
        promises8And9ShallowestCell();
        promises8And9WrongCells();
        Check.end("DepthsTest");
    }

    private static void promise1NewObject() {
        BeamChart x = new BeamChart();
        for (int cell = 0; cell < 64; cell++) {
            int c = cell;
            Check.same("new depth", 5, () -> x.depth(c % 8, c / 8));
        }
        Check.same("new lightCount", 0, x::lightCount);
        Check.same("new shipCount", 0, x::shipCount);
        Check.same("new minute", 0, x::minute);
        Check.same("new tide", 0, x::tide);
        Check.same("new sightings", 0, x::sightings);
        Check.same("new sightingsByLights", 0, x::sightingsByLights);
        Check.same("new wrecks", 0, x::wrecks);
        Check.same("new salvaged", 0, x::salvaged);
        Check.same("new undoCount", 0, x::undoCount);
        Check.same("new meanDepth", 5.0, x::meanDepth);
        Check.index("new lineCharacter", () -> x.lineCharacter(0));
    }

    private static void promise2SetDepth() {
        BeamChart x = new BeamChart();
        Check.same("setDepth answers the depth before", 5, () -> x.setDepth(3, 4, 9));
        Check.same("depth is set", 9, () -> x.depth(3, 4));
        Check.same("the mirrored cell stays", 5, () -> x.depth(4, 3));
        Check.same("setDepth 0", 9, () -> x.setDepth(3, 4, 0));
        Check.same("setDepth from 0", 0, () -> x.setDepth(3, 4, 1));
        Check.same("setDepth corner", 5, () -> x.setDepth(7, 0, 8));
        Check.same("setDepth other corner", 5, () -> x.setDepth(0, 7, 7));
        Check.same("changes are counted", 5, x::undoCount);
        for (int wrong : WRONG) {
            Check.index("setDepth column " + wrong, () -> x.setDepth(wrong, 0, 1));
            Check.index("setDepth row " + wrong, () -> x.setDepth(0, wrong, 1));
            Check.index("the cell is looked at before the depth", () -> x.setDepth(wrong, 0, 10));
        }
        Check.argument("depth -1", () -> x.setDepth(1, 1, -1));
        Check.argument("depth 10", () -> x.setDepth(1, 1, 10));
        Check.noElement("an exception is no denial", x::denial);
        Check.denied("the present depth", x, 7, 8, () -> x.setDepth(7, 0, 8));
        Check.denied("another present depth", x, 7, 5, () -> x.setDepth(1, 1, 5));
        Check.same("refused changes are not counted", 5, x::undoCount);
        Check.same("a refused depth is not set", 5, () -> x.depth(1, 1));
    }

    private static void promise2SetDepthLeavesShips() {
        BeamChart x = new BeamChart();
        x.addShip(2, 2, 5);
        x.setDepth(2, 2, 0);
        Check.same("the ship is afloat before the minute", false, () -> x.isWrecked(0));
        x.pass(1);
        Check.same("the ship is wrecked after the minute", true, () -> x.isWrecked(0));
    }

    private static void promise3Depth() {
        BeamChart x = new BeamChart();
        x.setDepth(0, 0, 1);
        x.setDepth(7, 7, 2);
        x.pass(4);
        Check.same("the tide does not count", 1, () -> x.depth(0, 0));
        Check.same("last corner", 2, () -> x.depth(7, 7));
        for (int wrong : WRONG) {
            Check.index("depth column " + wrong, () -> x.depth(wrong, 3));
            Check.index("depth row " + wrong, () -> x.depth(3, wrong));
        }
    }

    private static void promise4Water() {
        BeamChart x = new BeamChart();
        x.setDepth(1, 0, 0);
        x.setDepth(2, 0, 9);
        x.setDepth(3, 0, 1);
        int[] tides = {0, 0, 1, 1, 2, 2, 2, 2, 1, 1, 0, 0, 0, 0, 1};
        for (int minute = 0; minute < tides.length; minute++) {
            int tide = tides[minute];
            Check.same("water of 5", 5 + tide, () -> x.water(0, 0));
            Check.same("water of land", 0, () -> x.water(1, 0));
            Check.same("water of 9", 9 + tide, () -> x.water(2, 0));
            Check.same("water of 1", 1 + tide, () -> x.water(3, 0));
            x.pass(1);
        }
        for (int wrong : WRONG) {
            Check.index("water column " + wrong, () -> x.water(wrong, 3));
            Check.index("water row " + wrong, () -> x.water(3, wrong));
        }
    }

    private static void promise5Tide() {
        BeamChart x = new BeamChart();
        int[] tides = {0, 0, 1, 1, 2, 2, 2, 2, 1, 1, 0, 0};
        for (int minute = 0; minute < 40; minute++) {
            int tide = tides[minute % 12];
            Check.same("tide at minute " + minute, tide, x::tide);
            x.pass(1);
        }
    }

    private static void promises6And7Ranks() {
        BeamChart x = new BeamChart();
        Check.same("rank 9 column", 1, () -> x.columnByDepth(9));
        Check.same("rank 9 row", 1, () -> x.rowByDepth(9));
        Check.same("rank 1 column", 1, () -> x.columnByDepth(1));
        Check.same("rank 1 row", 0, () -> x.rowByDepth(1));
        Check.same("rank 63 column", 7, () -> x.columnByDepth(63));
        Check.same("rank 63 row", 7, () -> x.rowByDepth(63));
        x.setDepth(7, 7, 0);
        x.setDepth(0, 0, 9);
        x.setDepth(6, 2, 3);
        x.setDepth(2, 6, 3);
        x.setDepth(5, 2, 3);
        int[][] due = {{7, 7}, {5, 2}, {6, 2}, {2, 6}, {1, 0}};
        for (int rank = 0; rank < due.length; rank++) {
            int r = rank;
            Check.same("column at rank " + r, due[r][0], () -> x.columnByDepth(r));
            Check.same("row at rank " + r, due[r][1], () -> x.rowByDepth(r));
        }
        Check.same("deepest column", 0, () -> x.columnByDepth(63));
        Check.same("deepest row", 0, () -> x.rowByDepth(63));
        for (int wrong : new int[] {-1, 64, Integer.MIN_VALUE, Integer.MAX_VALUE}) {
            Check.noElement("column at rank " + wrong, () -> x.columnByDepth(wrong));
            Check.noElement("row at rank " + wrong, () -> x.rowByDepth(wrong));
        }
    }

    private static void promises8And9Clearance() {
        BeamChart x = new BeamChart();
        clears(x, 0, 0, 7, 7, 5);
        for (int row = 0; row < 8; row++) {
            x.setDepth(3, row, 2);
        }
        clears(x, 0, 0, 7, 7, 2);
        x.setDepth(3, 5, 4);
        clears(x, 0, 0, 7, 7, 4);
        clears(x, 7, 0, 0, 0, 4);
        clears(x, 3, 0, 7, 7, 2);
        clears(x, 7, 7, 3, 0, 2);
        clears(x, 3, 0, 3, 0, 2);
        clears(x, 0, 0, 2, 7, 5);
        x.setDepth(3, 5, 9);
        clears(x, 0, 0, 7, 7, 5);
        clears(x, 3, 5, 3, 5, 9);
        x.setDepth(4, 5, 9);
        clears(x, 3, 5, 4, 5, 9);
        clears(x, 3, 5, 4, 4, 5);
        x.setDepth(0, 1, 0);
        x.setDepth(1, 0, 0);
        clears(x, 0, 0, 7, 7, 0);
        clears(x, 0, 0, 1, 1, 0);
        clears(x, 0, 1, 0, 1, 0);
        clears(x, 0, 1, 1, 1, 0);
        clears(x, 0, 0, 0, 0, 5);
        x.setDepth(0, 1, 1);
        clears(x, 0, 0, 7, 7, 1);
        clears(x, 0, 1, 0, 1, 1);
        clears(x, 1, 0, 0, 1, 0);
        x.pass(4);
        clears(x, 0, 0, 0, 0, 5);
        clears(x, 3, 0, 7, 7, 2);
    }

    private static void promises8And9ShallowestCell() {
        // Each corner in turn has less depth than all its neighbours, and one neighbour alone leads on.
        int[][] cornersAndShut = {{0, 0, 1, 0}, {0, 0, 0, 1}, {7, 0, 6, 0}, {7, 0, 7, 1},
            {0, 7, 1, 7}, {0, 7, 0, 6}, {7, 7, 6, 7}, {7, 7, 7, 6}};
        for (int[] at : cornersAndShut) {
            BeamChart x = new BeamChart();
            x.setDepth(at[0], at[1], 3);
            x.setDepth(at[2], at[3], 0);
            clears(x, at[0], at[1], 4, 4, 3);
            clears(x, 4, 4, at[0], at[1], 3);
        }
    }

    private static void clears(BeamChart x, int column, int row, int toColumn, int toRow, int due) {
        String cells = column + "," + row + " to " + toColumn + "," + toRow;
        Check.same("clearance " + cells, due, () -> x.clearance(column, row, toColumn, toRow));
        Check.same("clearanceByFlooding " + cells, due, () -> x.clearanceByFlooding(column, row, toColumn, toRow));
    }

    private static void promises8And9WrongCells() {
        BeamChart x = new BeamChart();
        for (int wrong : WRONG) {
            for (int place = 0; place < 4; place++) {
                int[] at = {1, 1, 1, 1};
                at[place] = wrong;
                Check.index("clearance " + wrong, () -> x.clearance(at[0], at[1], at[2], at[3]));
                Check.index("clearanceByFlooding " + wrong, () -> x.clearanceByFlooding(at[0], at[1], at[2], at[3]));
            }
        }
    }
}
