/** Promises 25 to 40. */
public final class ShipsTest {
    private static final int[] WRONG = {-1, 8, Integer.MIN_VALUE, Integer.MAX_VALUE};

    public static void main(String[] args) {
        promise25AddShip();
        promise25Denials();
        promise26Steer();
        promise26Denials();
        promise27Salvage();
        promise28PassAnswers();
        promise28FirstStep();
        promise28MovesWithTheTide();
        promise28Wrecks();
        promise28OrderOfSteps();
        promises29To31Places();
        promises32And33Goals();
        promise34IsWrecked();
        promise35SeenBy();
        promise36DarkMinutes();
        promises37And38Ways();
        promises37And38WrongInputs();
        promise39UntilArrival();
        promise39NoArrival();
        promise40ByDarkness();
        Check.end("ShipsTest");
    }

    private static void promise25AddShip() {
        BeamChart x = new BeamChart();
        Check.same("first ship", 0, () -> x.addShip(7, 0, 5));
        Check.same("second ship on the same cell", 1, () -> x.addShip(7, 0, 1));
        Check.same("column", 7, () -> x.columnOf(1));
        Check.same("row", 0, () -> x.rowOf(1));
        Check.same("afloat", false, () -> x.isWrecked(1));
        Check.noElement("no goal", () -> x.goalColumn(1));
        Check.same("no dark minutes", 0, () -> x.darkMinutes(1));
        x.setDepth(1, 1, 9);
        Check.same("draught 9", 2, () -> x.addShip(1, 1, 9));
        for (int wrong : WRONG) {
            Check.index("addShip column " + wrong, () -> x.addShip(wrong, 0, 1));
            Check.index("addShip row " + wrong, () -> x.addShip(0, wrong, 1));
            Check.index("the cell comes first", () -> x.addShip(0, wrong, 0));
        }
        for (int draught : new int[] {0, 10, -1, Integer.MIN_VALUE, Integer.MAX_VALUE}) {
            Check.argument("draught " + draught, () -> x.addShip(0, 0, draught));
        }
        Check.noElement("no denial so far", x::denial);
        Check.same("three ships", 3, x::shipCount);
    }

    private static void promise25Denials() {
        BeamChart x = new BeamChart();
        x.setDepth(0, 1, 0);
        Check.denied("one too deep", x, 3, 5, () -> x.addShip(0, 0, 6));
        Check.denied("land", x, 3, 0, () -> x.addShip(0, 1, 1));
        x.pass(2);
        Check.same("with the tide", 0, () -> x.addShip(0, 0, 6));
        Check.denied("still too deep", x, 3, 6, () -> x.addShip(0, 0, 7));
        x.pass(2);
        Check.same("with the high tide", 1, () -> x.addShip(0, 0, 7));
        Check.denied("land with the high tide", x, 3, 0, () -> x.addShip(0, 1, 1));
        for (int ship = 2; ship < 6; ship++) {
            x.addShip(ship, ship, 1);
        }
        Check.denied("limit", x, 1, 6, () -> x.addShip(0, 0, 1));
        Check.denied("the limit comes before the water", x, 1, 6, () -> x.addShip(0, 0, 9));
        Check.argument("the draught comes before the limit", () -> x.addShip(0, 0, 10));
        Check.same("six ships", 6, x::shipCount);
    }

    private static void promise26Steer() {
        BeamChart x = new BeamChart();
        x.addShip(2, 2, 5);
        x.addShip(0, 0, 5);
        Check.same("length", 8, () -> x.steer(0, 7, 5));
        Check.same("goal column", 7, () -> x.goalColumn(0));
        Check.same("goal row", 5, () -> x.goalRow(0));
        Check.noElement("the other has none", () -> x.goalRow(1));
        Check.same("another goal", 1, () -> x.steer(0, 2, 1));
        Check.same("in place of the goal", 1, () -> x.goalRow(0));
        Check.same("its own cell", 0, () -> x.steer(0, 2, 2));
        Check.noElement("no goal any more", () -> x.goalColumn(0));
        Check.same("its own cell again", 0, () -> x.steer(0, 2, 2));
        Check.same("each one is a change", 6, x::undoCount);
        x.setDepth(2, 2, 0);
        Check.same("the way begins on land", 1, () -> x.steer(0, 2, 3));
        Check.same("it may stay on land", 0, () -> x.steer(0, 2, 2));
        Check.index("ship 2", () -> x.steer(2, 0, 0));
        Check.index("ship -1", () -> x.steer(-1, 0, 0));
        for (int wrong : WRONG) {
            Check.index("steer column " + wrong, () -> x.steer(0, wrong, 0));
            Check.index("steer row " + wrong, () -> x.steer(0, 0, wrong));
        }
    }

    private static void promise26Denials() {
        BeamChart x = new BeamChart();
        x.addShip(7, 7, 1);
        x.addShip(0, 0, 5);
        x.steer(1, 3, 0);
        x.setDepth(5, 5, 4);
        Check.denied("the goal is too shallow", x, 4, 1, () -> x.steer(1, 5, 5));
        Check.same("the goal before stays", 3, () -> x.goalColumn(1));
        Check.same("the other one can", 4, () -> x.steer(0, 5, 5));
        x.setDepth(0, 1, 4);
        x.setDepth(1, 0, 4);
        Check.denied("the ship is locked in", x, 4, 1, () -> x.steer(1, 7, 7));
        x.setDepth(0, 0, 4);
        x.pass(1);
        Check.denied("wrecked", x, 5, 1, () -> x.steer(1, 7, 7));
        Check.denied("wrecked, its own cell", x, 5, 1, () -> x.steer(1, 0, 0));
        Check.index("the cell is looked at before the wreck", () -> x.steer(1, 8, 0));
    }

    private static void promise27Salvage() {
        BeamChart x = new BeamChart();
        x.addShip(1, 1, 5);
        x.addShip(2, 2, 3);
        x.addShip(3, 3, 4);
        x.setDepth(2, 2, 2);
        Check.denied("afloat", x, 6, 1, () -> x.salvage(1));
        x.pass(1);
        Check.denied("another one is afloat", x, 6, 2, () -> x.salvage(2));
        Check.same("salvage", 30, () -> x.salvage(1));
        Check.same("salvaged", 30, x::salvaged);
        Check.same("two ships are left", 2, x::shipCount);
        Check.same("the later one moves up", 3, () -> x.columnOf(1));
        Check.same("it is afloat", false, () -> x.isWrecked(1));
        Check.index("ship 2", () -> x.salvage(2));
        Check.index("ship -1", () -> x.salvage(-1));
        x.setDepth(1, 1, 3);
        x.pass(1);
        Check.same("salvage again", 50, () -> x.salvage(0));
        Check.same("the sum", 80, x::salvaged);
        Check.same("wrecks stay counted", 2, x::wrecks);
        Check.same("a new ship", 1, () -> x.addShip(0, 0, 1));
        Check.same("is afloat", false, () -> x.isWrecked(1));
        Check.same("and has no dark minutes", 0, () -> x.darkMinutes(1));
    }

    private static void promise28PassAnswers() {
        BeamChart x = new BeamChart();
        for (int minutes : new int[] {0, 49, -1, Integer.MIN_VALUE, Integer.MAX_VALUE}) {
            Check.argument("pass " + minutes, () -> x.pass(minutes));
        }
        Check.same("no minute passed", 0, x::minute);
        Check.same("no change", 0, x::undoCount);
        Check.same("48 minutes", 0, () -> x.pass(48));
        Check.same("minute", 48, x::minute);
        x.addLight(0, 0, 9, 8);
        x.addLight(2, 0, 1, 8);
        x.addShip(2, 0, 1);
        x.addShip(2, 0, 2);
        Check.same("two sightings on the light's cell", 2, () -> x.pass(1));
        Check.same("seven minutes: the first light comes once", 7 * 2 + 2, () -> x.pass(7));
        Check.same("16 minutes: twice", 16 * 2 + 4, () -> x.pass(16));
        Check.same("sightings", 2 + 16 + 36, x::sightings);
        Check.same("undoCount", 8, x::undoCount);
    }

    private static void promise28FirstStep() {
        // All directions lead to the goal: north comes before east, and so on.
        int[][] goalsAndSteps = {{6, 6, 4, 5}, {6, 2, 5, 4}, {2, 2, 4, 3}, {2, 6, 4, 5}, {4, 0, 4, 3}, {0, 4, 3, 4}};
        for (int[] due : goalsAndSteps) {
            BeamChart x = new BeamChart();
            x.addShip(4, 4, 3);
            x.steer(0, due[0], due[1]);
            x.pass(1);
            Check.same("column on the way to " + due[0] + "," + due[1], due[2], () -> x.columnOf(0));
            Check.same("row on the way to " + due[0] + "," + due[1], due[3], () -> x.rowOf(0));
        }
        // North is open, but the shortest way begins in the east.
        BeamChart x = new BeamChart();
        x.setDepth(0, 2, 0);
        x.setDepth(1, 1, 0);
        x.addShip(0, 0, 3);
        Check.same("way round", 8, () -> x.steer(0, 2, 6));
        x.pass(1);
        Check.same("to the east", 1, () -> x.columnOf(0));
        x.pass(1);
        Check.same("and on", 2, () -> x.columnOf(0));
        x.pass(1);
        Check.same("then north", 1, () -> x.rowOf(0));
        x.pass(5);
        Check.same("arrived", 6, () -> x.rowOf(0));
        Check.noElement("no goal any more", () -> x.goalColumn(0));
    }

    private static void promise28MovesWithTheTide() {
        BeamChart x = new BeamChart();
        x.setDepth(1, 0, 4);
        x.setDepth(0, 1, 4);
        x.pass(2);
        x.addShip(0, 0, 5);
        x.steer(0, 3, 0);
        x.pass(1);
        Check.same("over the flat", 1, () -> x.columnOf(0));
        x.pass(1);
        Check.same("behind it", 2, () -> x.columnOf(0));
        BeamChart y = new BeamChart();
        y.addShip(0, 0, 5);
        y.steer(0, 3, 0);
        y.setDepth(1, 0, 4);
        y.setDepth(0, 1, 4);
        y.pass(1);
        Check.same("it waits for the tide", 0, () -> y.columnOf(0));
        Check.same("and keeps its goal", 3, () -> y.goalColumn(0));
        y.pass(1);
        Check.same("the tide of the new minute counts", 1, () -> y.columnOf(0));
    }

    private static void promise28Wrecks() {
        BeamChart x = new BeamChart();
        x.pass(4);
        x.addShip(0, 0, 7);
        x.addShip(1, 0, 6);
        x.addShip(2, 0, 5);
        x.steer(0, 5, 5);
        x.setDepth(0, 1, 1);
        x.setDepth(1, 0, 1);
        x.pass(3);
        Check.same("one is wrecked by the depth", 1, x::wrecks);
        Check.same("the second", true, () -> x.isWrecked(1));
        x.pass(1);
        Check.same("one is wrecked by the tide", 2, x::wrecks);
        Check.same("the first", true, () -> x.isWrecked(0));
        Check.noElement("it has no goal any more", () -> x.goalColumn(0));
        x.setDepth(0, 0, 9);
        x.pass(12);
        Check.same("it stays wrecked", true, () -> x.isWrecked(0));
        Check.same("and is counted once", 2, x::wrecks);
        Check.same("the third has just enough water", false, () -> x.isWrecked(2));
    }

    private static void promise28OrderOfSteps() {
        // It leaves the land before it could be wrecked there, and is seen where it comes to.
        BeamChart x = new BeamChart();
        x.addLight(1, 0, 1, 24);
        x.addShip(0, 0, 5);
        x.steer(0, 1, 0);
        x.setDepth(0, 0, 0);
        Check.same("seen on the new cell", 1, () -> x.pass(1));
        Check.same("afloat", false, () -> x.isWrecked(0));
        Check.same("arrived", 1, () -> x.columnOf(0));
        Check.same("it stays", 1, () -> x.pass(1));
        x.setDepth(1, 0, 1);
        Check.same("a wrecked ship is not sighted", 0, () -> x.pass(3));
        Check.same("dark minutes stay", 0, () -> x.darkMinutes(0));
        Check.same("but it is seen", 1, () -> x.seenBy(0));
        // The beam of the new minute counts: at minute 1 it has left the sector 0.
        BeamChart y = new BeamChart();
        y.addLight(0, 0, 9, 8);
        y.addShip(5, 0, 1);
        y.addShip(5, 6, 1);
        Check.same("only the ship in sector 1", 1, () -> y.pass(1));
        Check.same("first ship", 1, () -> y.darkMinutes(0));
        Check.same("second ship", 0, () -> y.darkMinutes(1));
    }

    private static void promises29To31Places() {
        BeamChart x = new BeamChart();
        Check.same("no ships", 0, x::shipCount);
        Check.index("columnOf without ships", () -> x.columnOf(0));
        Check.index("rowOf without ships", () -> x.rowOf(0));
        x.addShip(3, 6, 2);
        x.addShip(6, 3, 2);
        Check.same("two ships", 2, x::shipCount);
        Check.same("column 0", 3, () -> x.columnOf(0));
        Check.same("row 0", 6, () -> x.rowOf(0));
        Check.same("column 1", 6, () -> x.columnOf(1));
        Check.same("row 1", 3, () -> x.rowOf(1));
        for (int ship : new int[] {-1, 2, 6, Integer.MIN_VALUE, Integer.MAX_VALUE}) {
            Check.index("columnOf " + ship, () -> x.columnOf(ship));
            Check.index("rowOf " + ship, () -> x.rowOf(ship));
        }
    }

    private static void promises32And33Goals() {
        BeamChart x = new BeamChart();
        x.addShip(0, 0, 2);
        x.addShip(1, 1, 2);
        Check.noElement("goalColumn without goal", () -> x.goalColumn(0));
        Check.noElement("goalRow without goal", () -> x.goalRow(0));
        x.steer(1, 0, 2);
        Check.same("goal column 0", 0, () -> x.goalColumn(1));
        Check.same("goal row", 2, () -> x.goalRow(1));
        Check.noElement("the first has none", () -> x.goalRow(0));
        x.steer(0, 0, 7);
        x.pass(2);
        Check.noElement("arrived", () -> x.goalColumn(1));
        Check.same("on its way", 7, () -> x.goalRow(0));
        for (int ship : new int[] {-1, 2, 6, Integer.MIN_VALUE, Integer.MAX_VALUE}) {
            Check.index("goalColumn " + ship, () -> x.goalColumn(ship));
            Check.index("goalRow " + ship, () -> x.goalRow(ship));
        }
    }

    private static void promise34IsWrecked() {
        BeamChart x = new BeamChart();
        x.addShip(0, 0, 5);
        x.addShip(1, 0, 5);
        x.setDepth(1, 0, 4);
        Check.same("not yet", false, () -> x.isWrecked(1));
        x.pass(1);
        Check.same("wrecked", true, () -> x.isWrecked(1));
        Check.same("afloat", false, () -> x.isWrecked(0));
        for (int ship : new int[] {-1, 2, 6, Integer.MIN_VALUE, Integer.MAX_VALUE}) {
            Check.index("isWrecked " + ship, () -> x.isWrecked(ship));
        }
    }

    private static void promise35SeenBy() {
        BeamChart x = new BeamChart();
        x.addShip(4, 0, 1);
        Check.same("no light", 0, () -> x.seenBy(0));
        x.addLight(0, 0, 9, 8);
        Check.same("one light", 1, () -> x.seenBy(0));
        x.addLight(4, 0, 1, 8);
        x.addLight(3, 0, 1, 8);
        Check.same("three lights", 3, () -> x.seenBy(0));
        x.addLight(5, 0, 1, 8);
        Check.same("one looks the other way", 3, () -> x.seenBy(0));
        x.addLight(1, 0, 2, 8);
        Check.same("one is too far off", 3, () -> x.seenBy(0));
        x.setDepth(2, 0, 0);
        Check.same("land hides one", 2, () -> x.seenBy(0));
        Check.same("seeing is no sighting", 0, x::sightings);
        for (int ship : new int[] {-1, 1, 6, Integer.MIN_VALUE, Integer.MAX_VALUE}) {
            Check.index("seenBy " + ship, () -> x.seenBy(ship));
        }
    }

    private static void promise36DarkMinutes() {
        BeamChart x = new BeamChart();
        x.addLight(0, 0, 9, 8);
        x.addShip(5, 0, 1);
        x.addShip(7, 7, 1);
        Check.same("at first", 0, () -> x.darkMinutes(0));
        x.pass(7);
        Check.same("seven dark minutes", 7, () -> x.darkMinutes(0));
        x.pass(1);
        Check.same("seen", 0, () -> x.darkMinutes(0));
        Check.same("never seen", 8, () -> x.darkMinutes(1));
        x.pass(3);
        Check.same("dark again", 3, () -> x.darkMinutes(0));
        Check.same("still dark", 11, () -> x.darkMinutes(1));
        for (int ship : new int[] {-1, 2, 6, Integer.MIN_VALUE, Integer.MAX_VALUE}) {
            Check.index("darkMinutes " + ship, () -> x.darkMinutes(ship));
        }
    }

    private static void promises37And38Ways() {
        BeamChart x = new BeamChart();
        x.addShip(0, 0, 5);
        x.addShip(7, 7, 5);
        way(x, 0, 0, 0, 0);
        way(x, 0, 7, 7, 14);
        way(x, 1, 0, 7, 7);
        for (int column = 0; column < 7; column++) {
            x.setDepth(column, 1, 4);
            x.setDepth(7 - column, 3, 4);
        }
        // A snake: east in row 0, up at 7, west in row 2, up at 0, east in row 4.
        way(x, 0, 0, 2, 7 + 2 + 7);
        way(x, 0, 7, 4, 7 + 2 + 7 + 2 + 7);
        noWay(x, 0, 3, 1);
        x.setDepth(7, 1, 4);
        noWay(x, 0, 0, 2);
        way(x, 0, 7, 0, 7);
        x.pass(2);
        way(x, 0, 0, 2, 2);
        way(x, 0, 7, 7, 14);
        x.setDepth(0, 0, 0);
        way(x, 0, 0, 0, 0);
        way(x, 0, 7, 7, 14);
        noWay(x, 1, 0, 0);
        x.addShip(0, 1, 1);
        noWay(x, 2, 0, 0);
        x.setDepth(0, 0, 1);
        way(x, 2, 0, 0, 1);
        way(x, 2, 1, 0, 2);
        noWay(x, 1, 0, 0);
        way(x, 1, 0, 1, 13);
        x.setDepth(7, 6, 1);
        x.setDepth(6, 7, 1);
        noWay(x, 1, 0, 7);
        way(x, 1, 7, 7, 0);
        x.setDepth(7, 7, 1);
        x.pass(1);
        way(x, 1, 7, 7, 0);
        x.setDepth(6, 7, 5);
        way(x, 1, 6, 7, 1);
        Check.same("a way is no change of place", 7, () -> x.columnOf(1));
    }

    private static void way(BeamChart x, int ship, int column, int row, int due) {
        String what = " of " + ship + " to " + column + "," + row;
        Check.same("wayLength" + what, due, () -> x.wayLength(ship, column, row));
        // No call may rest on what the one before found.
        x.clearanceByFlooding(4, 4, 5, 5);
        Check.same("wayLengthByRounds" + what, due, () -> x.wayLengthByRounds(ship, column, row));
        x.clearanceByFlooding(4, 4, 5, 5);
    }

    private static void noWay(BeamChart x, int ship, int column, int row) {
        String what = " of " + ship + " to " + column + "," + row;
        Check.noElement("wayLength" + what, () -> x.wayLength(ship, column, row));
        Check.noElement("wayLengthByRounds" + what, () -> x.wayLengthByRounds(ship, column, row));
    }

    private static void promises37And38WrongInputs() {
        BeamChart x = new BeamChart();
        x.addShip(0, 0, 5);
        for (int ship : new int[] {-1, 1, 6, Integer.MIN_VALUE, Integer.MAX_VALUE}) {
            Check.index("wayLength of " + ship, () -> x.wayLength(ship, 0, 0));
            Check.index("wayLengthByRounds of " + ship, () -> x.wayLengthByRounds(ship, 0, 0));
        }
        for (int wrong : WRONG) {
            Check.index("wayLength column " + wrong, () -> x.wayLength(0, wrong, 0));
            Check.index("wayLength row " + wrong, () -> x.wayLength(0, 0, wrong));
            Check.index("wayLengthByRounds column " + wrong, () -> x.wayLengthByRounds(0, wrong, 0));
            Check.index("wayLengthByRounds row " + wrong, () -> x.wayLengthByRounds(0, 0, wrong));
        }
    }

    private static void promise39UntilArrival() {
        BeamChart x = new BeamChart();
        x.addShip(0, 0, 5);
        Check.noElement("no goal", () -> x.minutesUntilArrival(0));
        x.steer(0, 7, 7);
        Check.same("straight on", 14, () -> x.minutesUntilArrival(0));
        x.pass(3);
        Check.same("three minutes later", 11, () -> x.minutesUntilArrival(0));
        Check.same("nothing has moved", 3, () -> x.columnOf(0) + x.rowOf(0));
        // A flat before the goal opens with the tide only: at the minutes 4 to 7, and 16 to 19.
        BeamChart y = new BeamChart();
        y.setDepth(0, 6, 3);
        y.setDepth(1, 7, 3);
        y.addShip(0, 0, 5);
        y.steer(0, 0, 5);
        y.pass(4);
        Check.same("over the flat at minute 6", 3, () -> y.steer(0, 0, 7));
        Check.same("in time", 3, () -> y.minutesUntilArrival(0));
        y.steer(0, 0, 4);
        y.pass(1);
        y.steer(0, 0, 7);
        Check.same("still in time", 3, () -> y.minutesUntilArrival(0));
        y.steer(0, 0, 4);
        y.pass(2);
        Check.same("minute 7", 7, y::minute);
        y.steer(0, 0, 7);
        Check.same("it moves at the minutes 16 to 18", 18 - 7, () -> y.minutesUntilArrival(0));
        for (int ship : new int[] {-1, 1, 6, Integer.MIN_VALUE, Integer.MAX_VALUE}) {
            Check.index("minutesUntilArrival of " + ship, () -> x.minutesUntilArrival(ship));
        }
    }

    private static void promise39NoArrival() {
        BeamChart x = new BeamChart();
        x.addShip(0, 0, 5);
        x.steer(0, 7, 7);
        x.setDepth(7, 7, 2);
        Check.noElement("the goal stays too shallow", () -> x.minutesUntilArrival(0));
        x.setDepth(7, 7, 3);
        // The way is open at the high tide alone: 4 steps in each of three cycles, then at the minutes 40 and 41.
        Check.same("with the high tides", 41, () -> x.minutesUntilArrival(0));
        x.setDepth(7, 7, 5);
        x.setDepth(0, 1, 0);
        x.setDepth(1, 0, 0);
        x.setDepth(0, 0, 1);
        Check.noElement("it is wrecked before", () -> x.minutesUntilArrival(0));
        x.setDepth(0, 1, 5);
        Check.same("it gets away first", 14, () -> x.minutesUntilArrival(0));
        x.setDepth(0, 1, 0);
        x.pass(1);
        Check.noElement("a wrecked ship has no goal", () -> x.minutesUntilArrival(0));
        wreckedWhileWaiting();
        BeamChart y = new BeamChart();
        for (int column = 0; column < 7; column++) {
            y.setDepth(column, 1, 0);
            y.setDepth(7 - column, 3, 0);
            y.setDepth(column, 5, 0);
        }
        y.addShip(0, 0, 3);
        Check.same("a long way", 7 + 2 + 7 + 2 + 7 + 2 + 7 + 1, () -> y.steer(0, 0, 7));
        Check.same("within 48 minutes", 35, () -> y.minutesUntilArrival(0));
        noArrivalAfterFortyEight();
    }

    private static void wreckedWhileWaiting() {
        // The flats open at minute 16, but the ebb of minute 10 comes first.
        BeamChart x = new BeamChart();
        x.setDepth(0, 1, 4);
        x.setDepth(1, 0, 4);
        x.pass(7);
        x.addShip(0, 0, 6);
        x.steer(0, 3, 3);
        x.pass(1);
        Check.same("it waits", 0, () -> x.columnOf(0) + x.rowOf(0));
        Check.noElement("it is wrecked while it waits", () -> x.minutesUntilArrival(0));
        x.setDepth(0, 0, 6);
        Check.same("with more water it moves at the minutes 16 to 21", 21 - 8, () -> x.minutesUntilArrival(0));
    }

    private static void noArrivalAfterFortyEight() {
        BeamChart x = new BeamChart();
        for (int column = 0; column < 7; column++) {
            x.setDepth(column, 1, 0);
        }
        x.addShip(0, 0, 5);
        x.setDepth(0, 2, 3);
        x.setDepth(0, 3, 3);
        x.pass(4);
        // It moves at the minutes 5 to 7, 16 to 19, 28 to 31 and 40 to 43, which are 15 steps, and from 52 on.
        Check.same("16 steps", 16, () -> x.steer(0, 0, 2));
        Check.same("the last minute that counts", 48, () -> x.minutesUntilArrival(0));
        Check.same("17 steps", 17, () -> x.steer(0, 0, 3));
        Check.noElement("one minute too late", () -> x.minutesUntilArrival(0));
        x.pass(1);
        Check.same("one minute later", 48, () -> x.minutesUntilArrival(0));
    }

    private static void promise40ByDarkness() {
        BeamChart x = new BeamChart();
        Check.noElement("no ships", () -> x.shipByDarkness(0));
        x.addShip(7, 7, 2);
        x.pass(2);
        x.addShip(7, 7, 3);
        x.addShip(7, 7, 4);
        x.addShip(7, 7, 3);
        x.addShip(7, 7, 1);
        ranks(x, 0, 2, 1, 3, 4);
        x.addLight(7, 7, 1, 8);
        x.pass(1);
        ranks(x, 2, 1, 3, 0, 4);
        x.removeLight(0);
        x.addShip(0, 0, 1);
        x.setDepth(0, 0, 0);
        x.pass(4);
        ranks(x, 2, 1, 3, 0, 4, 5);
        for (int wrong : new int[] {-1, 6, Integer.MIN_VALUE, Integer.MAX_VALUE}) {
            Check.noElement("rank " + wrong, () -> x.shipByDarkness(wrong));
        }
    }

    private static void ranks(BeamChart x, int... due) {
        for (int rank = 0; rank < due.length; rank++) {
            int r = rank;
            Check.same("ship at rank " + r, due[r], () -> x.shipByDarkness(r));
        }
        Check.noElement("behind the last rank", () -> x.shipByDarkness(due.length));
    }
}
