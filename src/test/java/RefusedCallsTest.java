import java.util.NoSuchElementException;

/**
 * A method that throws an exception does not change the state: each refused call is made on one of two equal charts,
 * which must then tell the same, also after undoing and restoring. The denial of a denied call is its only trace.
 */
public final class RefusedCallsTest {
    private static final Class<IndexOutOfBoundsException> INDEX = IndexOutOfBoundsException.class;
    private static final Class<IllegalArgumentException> ARGUMENT = IllegalArgumentException.class;
    private static final Class<NoSuchElementException> NONE = NoSuchElementException.class;
    private static final Class<IllegalStateException> STATE = IllegalStateException.class;

    private interface Step {
        void run(BeamChart x);
    }

    private static final Step NOTHING = x -> { };

    public static void main(String[] args) {
        depths();
        lights();
        ships();
        texts();
        theRest();
        denials();
        denialsAtTheLimits();
        executions();
        Check.end("RefusedCallsTest");
    }

    /** At minute 2; light 1 has the phase 4, ship 0 is on its way, ship 1 is wrecked, eight changes can be undone. */
    private static BeamChart chart() {
        BeamChart x = new BeamChart();
        x.setDepth(0, 0, 4);
        x.saveSnapshot();
        x.addLight(0, 7, 9, 8);
        x.addLight(7, 7, 3, 24);
        x.setPhase(1, 4);
        x.addShip(1, 1, 5);
        x.addShip(2, 2, 5);
        x.addShip(6, 7, 3);
        x.steer(0, 5, 1);
        x.setDepth(2, 2, 1);
        x.pass(2);
        x.setDepth(7, 0, 0);
        Check.argument("a fault", () -> Check.execute(x, "wait 1;x"));
        Edge.failedCommand("wait 1;salvage 0", x, 1, 6);
        x.writeRow(1);
        Edge.feed(x, "wai");
        return x;
    }

    private static void refused(String what, Class<? extends RuntimeException> due, Step call) {
        refused(what, NOTHING, due, call);
    }

    private static void refused(String what, Step first, Class<? extends RuntimeException> due, Step call) {
        BeamChart x = chart();
        BeamChart y = chart();
        first.run(x);
        first.run(y);
        Check.fails(what, due, () -> {
            call.run(x);
            return "an answer";
        });
        String told = denialOf(y) + story(y);
        Check.same("after " + what, told, () -> denialOf(x) + story(x));
    }

    private static void denied(String what, Step first, int number, int detail, Step call) {
        BeamChart x = chart();
        BeamChart y = chart();
        first.run(x);
        first.run(y);
        Check.denied(what, x, number, detail, () -> {
            call.run(x);
            return "an answer";
        });
        String told = story(y);
        Check.same("after " + what, told, () -> story(x));
    }

    private static String denialOf(BeamChart x) {
        return "denial " + x.denial() + ',' + x.denialDetail() + ',' + x.denialCause() + ' ';
    }

    /** What the calls tell of all that is held, in some 400 calls. */
    private static String story(BeamChart x) {
        StringBuilder all = new StringBuilder();
        all.append(Check.line(x, 8)).append(" fault ").append(x.faultPosition());
        all.append(sketch(x)).append(" length ").append(x.feed('t'));
        Edge.feed(x, " 1");
        all.append(" commands ").append(x.execute()).append(sketch(x));
        while (x.undoCount() > 0) {
            all.append(" undo ").append(x.undo()).append(sketch(x));
        }
        return all.append(" restore ").append(x.restoreSnapshot()).append(sketch(x)).toString();
    }

    private static String sketch(BeamChart x) {
        StringBuilder all = new StringBuilder("\n");
        all.append(x.minute()).append(' ').append(x.meanDepth()).append(' ').append(x.undoCount());
        all.append(' ').append(x.sightings()).append(' ').append(x.sightingsByLights());
        all.append(' ').append(x.wrecks()).append(' ').append(x.salvaged()).append(' ').append(x.litCells());
        int lights = x.lightCount();
        for (int light = 0; light < lights; light++) {
            all.append(" light ").append(x.beam(light)).append(' ').append(x.sightingsOf(light));
        }
        int ships = x.shipCount();
        for (int ship = 0; ship < ships; ship++) {
            all.append(" ship ").append(x.columnOf(ship)).append(x.rowOf(ship)).append(x.isWrecked(ship));
            all.append(goalOf(x, ship)).append(x.darkMinutes(ship));
        }
        return all.toString();
    }

    private static String goalOf(BeamChart x, int ship) {
        try {
            return " to " + x.goalColumn(ship) + x.goalRow(ship) + ' ';
        } catch (NoSuchElementException e) {
            return " ";
        }
    }

    private static void depths() {
        refused("setDepth 8,0", INDEX, x -> x.setDepth(8, 0, 1));
        refused("setDepth 0,-1", INDEX, x -> x.setDepth(0, -1, 1));
        refused("setDepth 10", ARGUMENT, x -> x.setDepth(1, 0, 10));
        refused("setDepth -1", ARGUMENT, x -> x.setDepth(1, 0, -1));
        refused("depth", INDEX, x -> x.depth(8, 0));
        refused("water", INDEX, x -> x.water(0, 8));
        refused("columnByDepth", NONE, x -> x.columnByDepth(64));
        refused("rowByDepth", NONE, x -> x.rowByDepth(-1));
        refused("clearance", INDEX, x -> x.clearance(0, 0, 8, 0));
        refused("clearanceByFlooding", INDEX, x -> x.clearanceByFlooding(0, -1, 0, 0));
    }

    private static void lights() {
        refused("addLight 8,0", INDEX, x -> x.addLight(8, 0, 1, 8));
        refused("addLight range 0", ARGUMENT, x -> x.addLight(1, 1, 0, 8));
        refused("addLight range 10", ARGUMENT, x -> x.addLight(1, 1, 10, 8));
        refused("addLight period 7", ARGUMENT, x -> x.addLight(1, 1, 1, 7));
        refused("addLight period 25", ARGUMENT, x -> x.addLight(1, 1, 1, 25));
        refused("setPhase of 2", INDEX, x -> x.setPhase(2, 1));
        refused("setPhase 8", ARGUMENT, x -> x.setPhase(1, 8));
        refused("setPhase -1", ARGUMENT, x -> x.setPhase(1, -1));
        refused("removeLight", INDEX, x -> x.removeLight(2));
        refused("lightOn 0,8", INDEX, x -> x.lightOn(0, 8));
        refused("lightOn 1,1", NONE, x -> x.lightOn(1, 1));
        refused("beam", INDEX, x -> x.beam(-1));
        refused("sectorOf 2", INDEX, x -> x.sectorOf(2, 0, 0));
        refused("sectorOf its own cell", NONE, x -> x.sectorOf(0, 0, 7));
        refused("reaches", INDEX, x -> x.reaches(0, 8, 0));
        refused("sweeps", INDEX, x -> x.sweeps(2, 0, 0));
        refused("minutesUntilSwept of 2", INDEX, x -> x.minutesUntilSwept(2, 0, 0));
        refused("minutesUntilSwept too far", NONE, x -> x.minutesUntilSwept(1, 0, 0));
        refused("byDivision of 2", INDEX, x -> x.minutesUntilSweptByDivision(2, 0, 0));
        refused("byDivision too far", NONE, x -> x.minutesUntilSweptByDivision(1, 0, 0));
        refused("reachedCells", INDEX, x -> x.reachedCells(2));
    }

    private static void ships() {
        refused("addShip 8,0", INDEX, x -> x.addShip(8, 0, 1));
        refused("addShip draught 0", ARGUMENT, x -> x.addShip(1, 1, 0));
        refused("addShip draught 10", ARGUMENT, x -> x.addShip(1, 1, 10));
        refused("steer 3", INDEX, x -> x.steer(3, 0, 0));
        refused("steer to 0,8", INDEX, x -> x.steer(0, 0, 8));
        refused("salvage", INDEX, x -> x.salvage(3));
        refused("pass 0", ARGUMENT, x -> x.pass(0));
        refused("pass 49", ARGUMENT, x -> x.pass(49));
        refused("columnOf", INDEX, x -> x.columnOf(3));
        refused("rowOf", INDEX, x -> x.rowOf(-1));
        refused("goalColumn 3", INDEX, x -> x.goalColumn(3));
        refused("goalColumn 2", NONE, x -> x.goalColumn(2));
        refused("goalRow 3", INDEX, x -> x.goalRow(3));
        refused("goalRow 1", NONE, x -> x.goalRow(1));
        refused("isWrecked", INDEX, x -> x.isWrecked(3));
        refused("seenBy", INDEX, x -> x.seenBy(3));
        refused("darkMinutes", INDEX, x -> x.darkMinutes(3));
        refused("wayLength of 3", INDEX, x -> x.wayLength(3, 0, 0));
        refused("wayLength to land", NONE, x -> x.wayLength(0, 7, 0));
        refused("byRounds of 3", INDEX, x -> x.wayLengthByRounds(3, 0, 0));
        refused("byRounds to land", NONE, x -> x.wayLengthByRounds(0, 7, 0));
        refused("minutesUntilArrival of 3", INDEX, x -> x.minutesUntilArrival(3));
        refused("minutesUntilArrival of 2", NONE, x -> x.minutesUntilArrival(2));
        Step shut = x -> x.setDepth(5, 1, 0);
        refused("minutesUntilArrival without a way", shut, NONE, x -> x.minutesUntilArrival(0));
        refused("shipByDarkness", NONE, x -> x.shipByDarkness(3));
    }

    private static void texts() {
        refused("writeRow", INDEX, x -> x.writeRow(8));
        refused("writeShip", INDEX, x -> x.writeShip(3));
        refused("lineCharacter 8", INDEX, x -> x.lineCharacter(8));
        refused("lineCharacter -1", INDEX, x -> x.lineCharacter(-1));
        BeamChart x = new BeamChart();
        Edge.feed(x, "wait 1;".repeat(7) + "depth 77=1;");
        Check.state("feed", () -> x.feed('x'));
        Check.argument("the sixty characters before", x::execute);
        Check.same("they end too early", 60, x::faultPosition);
    }

    private static void theRest() {
        refused("sightingsOf", INDEX, x -> x.sightingsOf(2));
        Step undoAll = x -> {
            while (x.undoCount() > 0) {
                x.undo();
            }
        };
        refused("undo", undoAll, STATE, BeamChart::undo);
        BeamChart x = new BeamChart();
        x.pass(1);
        Check.state("restoreSnapshot", x::restoreSnapshot);
        Check.fails("seenShare", ArithmeticException.class, x::seenShare);
        Check.noElement("denial", x::denial);
        Check.noElement("denialDetail", x::denialDetail);
        Check.noElement("denialCause", x::denialCause);
        Check.noElement("faultPosition", x::faultPosition);
        Check.same("the change stands", 1, x::minute);
        Check.same("and can be undone", 0, x::undo);
    }

    private static void denials() {
        denied("setDepth", NOTHING, 7, 0, x -> x.setDepth(7, 0, 0));
        denied("addLight on the first", NOTHING, 2, 0, x -> x.addLight(0, 7, 1, 8));
        denied("addLight on the second", NOTHING, 2, 1, x -> x.addLight(7, 7, 1, 8));
        denied("setPhase", NOTHING, 7, 4, x -> x.setPhase(1, 4));
        denied("addShip", NOTHING, 3, 2, x -> x.addShip(2, 2, 3));
        denied("addShip on land", NOTHING, 3, 0, x -> x.addShip(7, 0, 1));
        denied("steer a wreck", NOTHING, 5, 1, x -> x.steer(1, 0, 1));
        denied("steer to land", NOTHING, 4, 0, x -> x.steer(0, 7, 0));
        denied("salvage", NOTHING, 6, 2, x -> x.salvage(2));
    }

    private static void denialsAtTheLimits() {
        Step lights = x -> {
            for (int light = 2; light < 6; light++) {
                x.addLight(light, 5, 1, 8);
            }
        };
        denied("addLight beyond the limit", lights, 1, 6, x -> x.addLight(0, 0, 1, 8));
        Step ships = x -> {
            for (int ship = 3; ship < 6; ship++) {
                x.addShip(ship, 5, 1);
            }
        };
        denied("addShip beyond the limit", ships, 1, 6, x -> x.addShip(0, 0, 1));
    }

    private static void executions() {
        // The buffer is empty afterwards, so what stood in it is fed again.
        BeamChart x = chart();
        BeamChart y = chart();
        Check.argument("no match", x::execute);
        Check.same("its fault", 3, x::faultPosition);
        Check.argument("the fault before", () -> Check.execute(x, "wait 1;x"));
        Edge.feed(x, "wai");
        String told = denialOf(y) + story(y);
        Check.same("after a text that does not match", told, () -> denialOf(x) + story(x));
        BeamChart z = chart();
        Edge.feed(z, "t 2;phase 0=3;douse 1;salvage 1;depth 70=3;salvage 0");
        Check.fails("a command fails", UnsupportedOperationException.class, z::execute);
        Check.same("its denial", "denial 8,5,6 ", () -> denialOf(z));
        Edge.feed(z, "wai");
        String due = story(chart());
        Check.same("after a text that is denied", due, () -> story(z));
    }
}
