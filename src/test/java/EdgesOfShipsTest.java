/**
 * The boundary cases of the promises 25 to 40, each with a test of its own. The number in a test's name is the
 * promise's.
 */
public final class EdgesOfShipsTest {
    public static void main(String[] args) throws Exception {
        Edge.runAll(EdgesOfShipsTest.class, "promise");
    }

    /** Ship 0 is wrecked at 0,0 with the draught 5, ship 1 is afloat at 7,7; it is minute 1. */
    private static BeamChart oneWrecked() {
        BeamChart x = new BeamChart();
        x.addShip(0, 0, 5);
        x.addShip(7, 7, 5);
        x.setDepth(0, 0, 4);
        x.pass(1);
        return x;
    }

    // ---- addShip

    private static void promise25NoSuchCell() {
        Edge.noSuchCell("addShip", (x, column, row) -> x.addShip(column, row, 1));
    }

    private static void promise25DraughtOutOfRange() {
        BeamChart x = new BeamChart();
        x.setDepth(0, 0, 9);
        for (int draught : new int[] {-1, 0, 10, 11, Integer.MIN_VALUE, Integer.MAX_VALUE}) {
            Check.argument("draught " + draught, () -> x.addShip(0, 0, draught));
        }
        Check.same("least", 0, () -> x.addShip(0, 0, 1));
        Check.same("greatest", 1, () -> x.addShip(0, 0, 9));
        x.pass(4);
        Check.argument("draught 10 in the water 11", () -> x.addShip(0, 0, 10));
    }

    private static void promise25SixShips() {
        BeamChart x = new BeamChart();
        for (int ship = 0; ship < 6; ship++) {
            int due = ship;
            Check.same("ship " + ship, due, () -> x.addShip(7, 0, 5));
        }
        Check.denied("one more", x, 1, 6, () -> x.addShip(0, 0, 5));
        x.setDepth(7, 0, 1);
        x.pass(1);
        Check.denied("wrecks count", x, 1, 6, () -> x.addShip(0, 0, 5));
        x.salvage(3);
        Check.same("when one is salvaged", 5, () -> x.addShip(0, 0, 5));
    }

    private static void promise25JustEnoughWater() {
        BeamChart x = new BeamChart();
        Check.same("as much water", 0, () -> x.addShip(0, 0, 5));
        Check.denied("one less", x, 3, 5, () -> x.addShip(0, 0, 6));
        x.pass(2);
        Check.same("as much with the tide", 1, () -> x.addShip(0, 0, 6));
        Check.denied("one less with the tide", x, 3, 6, () -> x.addShip(0, 0, 7));
    }

    private static void promise25OnLand() {
        BeamChart x = new BeamChart();
        x.setDepth(0, 0, 0);
        Check.denied("land in the ebb", x, 3, 0, () -> x.addShip(0, 0, 1));
        x.pass(4);
        Check.denied("land in the flood", x, 3, 0, () -> x.addShip(0, 0, 1));
        x.setDepth(0, 0, 1);
        Check.same("the least depth", 0, () -> x.addShip(0, 0, 3));
    }

    private static void promise25LimitBeforeWater() {
        BeamChart x = Edge.ships(6);
        Check.denied("both", x, 1, 6, () -> x.addShip(0, 0, 9));
    }

    private static void promise25DraughtBeforeDenials() {
        BeamChart x = Edge.ships(6);
        Check.argument("draught 0, with six ships", () -> x.addShip(0, 0, 0));
        Check.argument("draught 10, with six ships and too shallow", () -> x.addShip(0, 0, 10));
        Check.noElement("no denial", x::denial);
    }

    private static void promise25CellBeforeDraught() {
        BeamChart x = Edge.ships(6);
        Check.index("all wrong", () -> x.addShip(8, 0, 0));
        Check.index("all wrong", () -> x.addShip(0, -1, 10));
    }

    private static void promise25AfloatWithoutGoal() {
        BeamChart x = new BeamChart();
        x.addShip(0, 0, 5);
        x.steer(0, 7, 7);
        x.pass(3);
        Check.same("beside a ship with a goal", 1, () -> x.addShip(2, 2, 3));
        Check.same("afloat, no goal, no dark minutes", "22d3~0", () -> Edge.ship(x, 1));
    }

    private static void promise25InPlaceOfASalvagedShip() {
        BeamChart x = new BeamChart();
        x.addShip(0, 0, 5);
        x.pass(3);
        x.setDepth(0, 0, 1);
        x.pass(1);
        Check.same("wrecked", "00d5!~3", () -> Edge.ship(x, 0));
        x.salvage(0);
        Check.same("the next one", 0, () -> x.addShip(0, 0, 1));
        Check.same("is a new one", "00d1~0", () -> Edge.ship(x, 0));
    }

    // ---- steer

    private static void promise26NoSuchShip() {
        Edge.noSuchShip("steer", (x, ship) -> x.steer(ship, 7, 7));
    }

    private static void promise26NoSuchCell() {
        Edge.noSuchCell("steer", (x, column, row) -> x.steer(0, column, row));
    }

    private static void promise26InPlaceOfItsGoal() {
        BeamChart x = Edge.ships(1);
        x.steer(0, 7, 7);
        Check.same("another goal", 1, () -> x.steer(0, 1, 1));
        Check.same("the goal", "01d5>11~0", () -> Edge.ship(x, 0));
        Check.same("the same goal again", 1, () -> x.steer(0, 1, 1));
        Check.same("each one is a change", 4, x::undoCount);
    }

    private static void promise26ToItsOwnCell() {
        BeamChart x = Edge.ships(1);
        Check.same("without a goal", 0, () -> x.steer(0, 0, 1));
        Check.noElement("no goal", () -> x.goalColumn(0));
        x.steer(0, 7, 7);
        Check.same("with a goal", 0, () -> x.steer(0, 0, 1));
        Check.noElement("no goal any more", () -> x.goalColumn(0));
        x.pass(1);
        Check.same("it stays", "01d5~1", () -> Edge.ship(x, 0));
    }

    private static void promise26ToItsOwnCellOnLand() {
        BeamChart x = Edge.ships(1);
        x.setDepth(0, 1, 0);
        Check.same("the way to itself", 0, () -> x.steer(0, 0, 1));
        Check.noElement("no denial", x::denial);
    }

    private static void promise26Wrecked() {
        BeamChart x = oneWrecked();
        Check.denied("wrecked", x, 5, 0, () -> x.steer(0, 0, 1));
        Check.same("the other one is afloat", 1, () -> x.steer(1, 7, 6));
    }

    private static void promise26NoWay() {
        BeamChart x = Edge.ships(2);
        x.steer(1, 7, 7);
        x.setDepth(5, 5, 4);
        Check.denied("too shallow now", x, 4, 1, () -> x.steer(1, 5, 5));
        Check.same("its goal stays", "11d5>77~0", () -> Edge.ship(x, 1));
        x.pass(2);
        Check.same("deep enough now", 6, () -> x.steer(1, 5, 5));
    }

    private static void promise26WreckBeforeWay() {
        BeamChart x = oneWrecked();
        x.setDepth(5, 5, 0);
        Check.denied("wrecked, and no way to land", x, 5, 0, () -> x.steer(0, 5, 5));
        Check.denied("wrecked, on its goal", x, 5, 0, () -> x.steer(0, 0, 0));
    }

    private static void promise26IndexBeforeDenials() {
        BeamChart x = oneWrecked();
        Check.index("a wrecked ship, no such cell", () -> x.steer(0, 0, 8));
        Check.noElement("no denial", x::denial);
    }

    private static void promise26FarthestCell() {
        Check.same("a snake over the chart", 35, () -> snake().steer(0, 0, 7));
    }

    /** The rows 1, 3 and 5 are land but for one end, so that the way from 0,0 to 0,7 goes through the rows between. */
    private static BeamChart snake() {
        BeamChart x = new BeamChart();
        for (int column = 0; column < 7; column++) {
            x.setDepth(column, 1, 0);
            x.setDepth(7 - column, 3, 0);
            x.setDepth(column, 5, 0);
        }
        x.addShip(0, 0, 5);
        return x;
    }

    // ---- salvage

    private static void promise27NoSuchShip() {
        Edge.noSuchShip("salvage", (x, ship) -> x.salvage(ship));
    }

    private static void promise27Afloat() {
        BeamChart x = oneWrecked();
        Check.denied("afloat", x, 6, 1, () -> x.salvage(1));
        x.setDepth(7, 7, 0);
        Check.denied("afloat on land, before the minute passes", x, 6, 1, () -> x.salvage(1));
        Check.same("both are there", 2, x::shipCount);
    }

    private static void promise27LeastAndMost() {
        BeamChart x = new BeamChart();
        x.setDepth(0, 0, 9);
        x.addShip(0, 0, 1);
        x.addShip(0, 0, 9);
        x.setDepth(0, 0, 0);
        x.pass(1);
        Check.same("draught 9", 90, () -> x.salvage(1));
        Check.same("draught 1", 10, () -> x.salvage(0));
        Check.same("none is left", 0, x::shipCount);
        Check.same("the sum", 100, x::salvaged);
    }

    // ---- pass

    private static void promise28MinutesOutOfRange() {
        BeamChart x = new BeamChart();
        for (int minutes : new int[] {-1, 0, 49, 50, Integer.MIN_VALUE, Integer.MAX_VALUE}) {
            Check.argument("minutes " + minutes, () -> x.pass(minutes));
        }
        Check.same("least", 0, () -> x.pass(1));
        Check.same("minute", 1, x::minute);
        Check.same("greatest", 0, () -> x.pass(48));
        Check.same("minute", 49, x::minute);
    }

    private static void promise28OnlyTheseSightings() {
        BeamChart x = new BeamChart();
        x.addLight(0, 0, 1, 8);
        x.addShip(0, 0, 5);
        Check.same("first", 5, () -> x.pass(5));
        Check.same("not those before", 1, () -> x.pass(1));
        Check.same("all", 6, x::sightings);
    }

    private static void promise28ManyAtOnceAreAsOneByOne() {
        BeamChart atOnce = busy();
        BeamChart oneByOne = busy();
        int sum = atOnce.pass(48);
        int each = 0;
        for (int minute = 0; minute < 48; minute++) {
            each += oneByOne.pass(1);
        }
        int oneSum = each;
        Check.same("sightings", sum, () -> oneSum);
        Check.yes("there are some", sum > 0);
        Check.same("minute", 48, oneByOne::minute);
        Check.same("first ship", Edge.ship(atOnce, 0), () -> Edge.ship(oneByOne, 0));
        Check.same("second ship", Edge.ship(atOnce, 1), () -> Edge.ship(oneByOne, 1));
        Check.same("wrecks", atOnce.wrecks(), oneByOne::wrecks);
    }

    private static BeamChart busy() {
        BeamChart x = new BeamChart();
        x.addLight(0, 0, 9, 11);
        x.addLight(7, 7, 5, 24);
        x.addShip(0, 2, 5);
        x.addShip(5, 5, 5);
        x.steer(0, 7, 5);
        x.setDepth(7, 5, 3);
        x.setDepth(5, 5, 4);
        return x;
    }

    // ---- places and goals

    private static void promise29FromZeroToSix() {
        BeamChart x = new BeamChart();
        for (int count = 0; count < 6; count++) {
            int due = count;
            Check.same("so many", due, x::shipCount);
            x.addShip(count, 0, 5);
        }
        Check.fails("one more", UnsupportedOperationException.class, () -> x.addShip(6, 0, 5));
        Check.same("full", 6, x::shipCount);
    }

    private static void promise29WrecksCount() {
        BeamChart x = oneWrecked();
        Check.same("one is wrecked", 2, x::shipCount);
        x.salvage(0);
        Check.same("and salvaged", 1, x::shipCount);
    }

    private static void promise30NoSuchShip() {
        Edge.noSuchShip("columnOf", (x, ship) -> x.columnOf(ship));
    }

    private static void promise30FirstAndLastColumn() {
        BeamChart x = new BeamChart();
        x.addShip(0, 7, 5);
        x.addShip(7, 0, 5);
        Check.same("column 0", 0, () -> x.columnOf(0));
        Check.same("column 7", 7, () -> x.columnOf(1));
    }

    private static void promise31NoSuchShip() {
        Edge.noSuchShip("rowOf", (x, ship) -> x.rowOf(ship));
    }

    private static void promise31FirstAndLastRow() {
        BeamChart x = new BeamChart();
        x.addShip(7, 0, 5);
        x.addShip(0, 7, 5);
        Check.same("row 0", 0, () -> x.rowOf(0));
        Check.same("row 7", 7, () -> x.rowOf(1));
    }

    private static void promise32NoSuchShip() {
        Edge.noSuchShip("goalColumn", (x, ship) -> x.goalColumn(ship));
    }

    private static void promise32NoGoal() {
        noGoal("goalColumn", (x, ship) -> x.goalColumn(ship));
    }

    private static void promise32FirstAndLastColumn() {
        BeamChart x = Edge.ships(1);
        x.steer(0, 7, 1);
        Check.same("column 7", 7, () -> x.goalColumn(0));
        x.steer(0, 0, 7);
        Check.same("column 0", 0, () -> x.goalColumn(0));
    }

    private static void promise33NoSuchShip() {
        Edge.noSuchShip("goalRow", (x, ship) -> x.goalRow(ship));
    }

    private static void promise33NoGoal() {
        noGoal("goalRow", (x, ship) -> x.goalRow(ship));
    }

    private static void promise33FirstAndLastRow() {
        BeamChart x = Edge.ships(1);
        x.steer(0, 1, 7);
        Check.same("row 7", 7, () -> x.goalRow(0));
        x.steer(0, 7, 0);
        Check.same("row 0", 0, () -> x.goalRow(0));
    }

    private static void noGoal(String what, Edge.IndexCall call) {
        BeamChart x = Edge.ships(2);
        Check.noElement(what + " of a new ship", () -> call.run(x, 0));
        x.steer(0, 2, 1);
        Check.noElement(what + " of the other ship", () -> call.run(x, 1));
        x.pass(2);
        Check.noElement(what + " of a ship that has arrived", () -> call.run(x, 0));
        x.steer(0, 7, 7);
        x.steer(0, 2, 1);
        Check.noElement(what + " of a ship that was steered to its own cell", () -> call.run(x, 0));
        x.steer(0, 7, 7);
        for (int[] shut : new int[][] {{1, 1}, {3, 1}, {2, 0}, {2, 2}, {2, 1}}) {
            x.setDepth(shut[0], shut[1], 1);
        }
        x.pass(1);
        Check.noElement(what + " of a wrecked ship", () -> call.run(x, 0));
    }

    // ---- isWrecked, seenBy and darkMinutes

    private static void promise34NoSuchShip() {
        Edge.noSuchShip("isWrecked", (x, ship) -> x.isWrecked(ship));
    }

    private static void promise34JustEnoughWater() {
        BeamChart x = new BeamChart();
        x.pass(9);
        x.addShip(0, 0, 6);
        x.addShip(1, 0, 5);
        Check.same("in the flood", false, () -> x.isWrecked(0));
        x.pass(1);
        Check.same("in the ebb", true, () -> x.isWrecked(0));
        Check.same("with just enough", false, () -> x.isWrecked(1));
        x.pass(4);
        Check.same("in the next flood", true, () -> x.isWrecked(0));
    }

    private static void promise35NoSuchShip() {
        Edge.noSuchShip("seenBy", (x, ship) -> x.seenBy(ship));
    }

    private static void promise35NoneAndAll() {
        BeamChart x = Edge.lights(6);
        x.addShip(0, 7, 5);
        x.addShip(5, 0, 5);
        Check.same("none", 0, () -> x.seenBy(0));
        Check.same("all, with the one on its cell", 6, () -> x.seenBy(1));
    }

    private static void promise36NoSuchShip() {
        Edge.noSuchShip("darkMinutes", (x, ship) -> x.darkMinutes(ship));
    }

    private static void promise36ZeroAgain() {
        BeamChart x = new BeamChart();
        x.addShip(0, 0, 5);
        x.pass(48);
        Check.same("48", 48, () -> x.darkMinutes(0));
        x.pass(48);
        Check.same("96", 96, () -> x.darkMinutes(0));
        x.addLight(0, 0, 1, 8);
        x.pass(1);
        Check.same("seen", 0, () -> x.darkMinutes(0));
    }

    // ---- ways

    private static void promise37NoSuchShip() {
        Edge.noSuchShip("wayLength", (x, ship) -> x.wayLength(ship, 7, 7));
    }

    private static void promise37NoSuchCell() {
        Edge.noSuchCell("wayLength", (x, column, row) -> x.wayLength(0, column, row));
    }

    private static void promise37NoWay() {
        noWay("wayLength", (x, column, row) -> x.wayLength(0, column, row));
    }

    private static void promise37ToItself() {
        toItself("wayLength", (x, column, row) -> x.wayLength(0, column, row));
    }

    private static void promise37Longest() {
        longest("wayLength", (x, column, row) -> x.wayLength(0, column, row));
    }

    private static void promise37OfAWreck() {
        ofAWreck("wayLength", (x, column, row) -> x.wayLength(0, column, row));
    }

    private static void promise38NoSuchShip() {
        Edge.noSuchShip("wayLengthByRounds", (x, ship) -> x.wayLengthByRounds(ship, 7, 7));
    }

    private static void promise38NoSuchCell() {
        Edge.noSuchCell("wayLengthByRounds", (x, column, row) -> x.wayLengthByRounds(0, column, row));
    }

    private static void promise38NoWay() {
        noWay("wayLengthByRounds", (x, column, row) -> x.wayLengthByRounds(0, column, row));
    }

    private static void promise38ToItself() {
        toItself("wayLengthByRounds", (x, column, row) -> x.wayLengthByRounds(0, column, row));
    }

    private static void promise38Longest() {
        longest("wayLengthByRounds", (x, column, row) -> x.wayLengthByRounds(0, column, row));
    }

    private static void promise38OfAWreck() {
        ofAWreck("wayLengthByRounds", (x, column, row) -> x.wayLengthByRounds(0, column, row));
    }

    private static void promise37ToEachCorner() {
        toEachCorner("wayLength", (x, column, row) -> x.wayLength(0, column, row));
    }

    private static void promise38ToEachCorner() {
        toEachCorner("wayLengthByRounds", (x, column, row) -> x.wayLengthByRounds(0, column, row));
    }

    private static void toEachCorner(String what, Edge.CellCall call) {
        int[][] corners = {{0, 0, 7}, {7, 0, 6}, {0, 7, 8}, {7, 7, 7}};
        BeamChart x = new BeamChart();
        x.addShip(4, 3, 5);
        for (int[] corner : corners) {
            String to = what + " to " + corner[0] + "," + corner[1];
            Check.same(to, corner[2], () -> call.run(x, corner[0], corner[1]));
            x.setDepth(corner[0], corner[1], 4);
            Check.noElement(to + ", too shallow", () -> call.run(x, corner[0], corner[1]));
            x.setDepth(corner[0], corner[1], 6);
            Check.same(to + ", deep again", corner[2], () -> call.run(x, corner[0], corner[1]));
        }
    }

    private static void noWay(String what, Edge.CellCall call) {
        BeamChart x = new BeamChart();
        x.addShip(0, 0, 5);
        x.setDepth(7, 7, 4);
        Check.noElement(what + " to what is too shallow", () -> call.run(x, 7, 7));
        x.setDepth(7, 7, 5);
        Check.same(what + " to what is just deep enough", 14, () -> call.run(x, 7, 7));
        x.setDepth(7, 6, 4);
        x.setDepth(6, 7, 4);
        Check.noElement(what + " into a locked cell", () -> call.run(x, 7, 7));
        x.pass(2);
        Check.same(what + " with the tide", 14, () -> call.run(x, 7, 7));
        x.setDepth(0, 1, 0);
        x.setDepth(1, 0, 0);
        Check.noElement(what + " out of a locked cell", () -> call.run(x, 7, 7));
    }

    private static void toItself(String what, Edge.CellCall call) {
        BeamChart x = new BeamChart();
        x.addShip(7, 0, 5);
        Check.same(what + " to itself", 0, () -> call.run(x, 7, 0));
        x.setDepth(7, 1, 0);
        x.setDepth(6, 0, 0);
        x.setDepth(7, 0, 0);
        Check.same(what + " to itself, on land between lands", 0, () -> call.run(x, 7, 0));
    }

    private static void longest(String what, Edge.CellCall call) {
        BeamChart x = snake();
        Check.same(what + " in a snake", 35, () -> call.run(x, 0, 7));
        Check.same(what + " half way", 16, () -> call.run(x, 0, 2));
        x.setDepth(7, 3, 5);
        Check.same(what + " with a short cut", 21, () -> call.run(x, 0, 7));
    }

    private static void ofAWreck(String what, Edge.CellCall call) {
        BeamChart x = oneWrecked();
        Check.same(what + " of a wrecked ship", 14, () -> call.run(x, 7, 7));
        Check.same(what + " of a wrecked ship to itself", 0, () -> call.run(x, 0, 0));
    }

    // ---- minutesUntilArrival

    private static void promise39NoSuchShip() {
        Edge.noSuchShip("minutesUntilArrival", (x, ship) -> x.minutesUntilArrival(ship));
    }

    private static void promise39NoGoal() {
        noGoal("minutesUntilArrival", (x, ship) -> x.minutesUntilArrival(ship));
    }

    private static void promise39NextMinute() {
        BeamChart x = Edge.ships(1);
        x.steer(0, 1, 1);
        Check.same("one minute", 1, () -> x.minutesUntilArrival(0));
        Check.same("no minute has passed", "01d5>11~0", () -> Edge.ship(x, 0));
        Check.same("minute", 0, x::minute);
        Check.same("no change", 2, x::undoCount);
    }

    private static void promise39FortyEightAndNoMore() {
        Check.same("the last minute that counts", 48, () -> goalInTheFlood(2).minutesUntilArrival(0));
        Check.noElement("one minute too late", () -> goalInTheFlood(3).minutesUntilArrival(0));
    }

    /**
     * The goal has enough water at the high tides alone. From minute 4 on the ship moves at the minutes 5 to 7, 16 to
     * 19, 28 to 31 and 40 to 43, which are 15 steps, and from 52 on; to the row 2 it has 16 steps, to the row 3 17.
     */
    private static BeamChart goalInTheFlood(int goalRow) {
        BeamChart x = new BeamChart();
        for (int column = 0; column < 7; column++) {
            x.setDepth(column, 1, 0);
        }
        x.setDepth(0, goalRow, 3);
        x.addShip(0, 0, 5);
        x.pass(4);
        Check.same("steps to the row " + goalRow, 14 + goalRow, () -> x.steer(0, 0, goalRow));
        return x;
    }

    private static void promise39Never() {
        BeamChart x = new BeamChart();
        x.addShip(0, 0, 5);
        x.steer(0, 7, 7);
        x.setDepth(7, 7, 2);
        Check.noElement("too shallow in the flood", () -> x.minutesUntilArrival(0));
        x.setDepth(7, 7, 0);
        Check.noElement("land", () -> x.minutesUntilArrival(0));
        x.setDepth(7, 7, 5);
        Check.same("deep enough", 14, () -> x.minutesUntilArrival(0));
    }

    private static void promise39WreckedBefore() {
        BeamChart x = new BeamChart();
        x.pass(7);
        x.addShip(0, 0, 6);
        x.steer(0, 7, 7);
        Check.noElement("the ebb of minute 10 wrecks it on its way", () -> x.minutesUntilArrival(0));
        Check.same("in time", 2, () -> x.steer(0, 1, 1));
        Check.same("it arrives at minute 9", 2, () -> x.minutesUntilArrival(0));
        Check.same("one step more", 3, () -> x.steer(0, 1, 2));
        Check.noElement("it would arrive at minute 10", () -> x.minutesUntilArrival(0));
    }

    private static void promise39LongWay() {
        BeamChart x = snake();
        x.steer(0, 0, 7);
        Check.same("a snake over the chart", 35, () -> x.minutesUntilArrival(0));
    }

    private static void promise39AfterTheTwelfthMinute() {
        BeamChart x = new BeamChart();
        x.setDepth(1, 0, 3);
        x.pass(7);
        x.addShip(0, 0, 5);
        Check.same("one step in the flood of minute 7", 1, () -> x.steer(0, 1, 0));
        Check.same("it waits for the flood of minute 16", 9, () -> x.minutesUntilArrival(0));
    }

    // ---- shipByDarkness

    private static void promise40RankOutOfRange() {
        for (int count = 0; count <= 6; count++) {
            BeamChart x = Edge.ships(count);
            for (int rank : new int[] {-1, count, count + 1, 7, 64, Integer.MIN_VALUE, Integer.MAX_VALUE}) {
                Check.noElement("rank " + rank + " of " + count, () -> x.shipByDarkness(rank));
            }
            for (int rank = 0; rank < count; rank++) {
                int due = rank;
                Check.same("all are equal, rank " + due, due, () -> x.shipByDarkness(due));
            }
        }
    }

    private static void promise40EqualDarkMinutes() {
        BeamChart x = new BeamChart();
        for (int draught : new int[] {3, 5, 1, 5, 3, 4}) {
            x.addShip(7, 7, draught);
        }
        ranks(x, 1, 3, 5, 0, 4, 2);
        x.pass(48);
        ranks(x, 1, 3, 5, 0, 4, 2);
    }

    private static void promise40DarkMinutesBeforeDraught() {
        BeamChart x = new BeamChart();
        x.addLight(7, 0, 1, 24);
        x.addShip(7, 7, 1);
        x.addShip(7, 0, 5);
        ranks(x, 1, 0);
        x.pass(1);
        ranks(x, 0, 1);
    }

    private static void promise40WrecksKeepTheirRank() {
        BeamChart x = new BeamChart();
        x.addShip(0, 0, 5);
        x.pass(2);
        x.setDepth(0, 0, 1);
        x.addShip(7, 7, 1);
        x.pass(1);
        Check.same("wrecked", "00d5!~2", () -> Edge.ship(x, 0));
        ranks(x, 0, 1);
        x.pass(2);
        ranks(x, 1, 0);
    }

    private static void ranks(BeamChart x, int... due) {
        for (int rank = 0; rank < due.length; rank++) {
            int r = rank;
            Check.same("ship at rank " + r, due[r], () -> x.shipByDarkness(r));
        }
    }
}
