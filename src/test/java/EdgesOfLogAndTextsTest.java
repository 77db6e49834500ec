/**
 * The boundary cases of the promises 41 to 61, each with a test of its own. The number in a test's name is the
 * promise's.
 */
public final class EdgesOfLogAndTextsTest {
    public static void main(String[] args) throws Exception {
        Edge.runAll(EdgesOfLogAndTextsTest.class, "promise");
    }

    // ---- log

    private static void promise41FromZeroOn() {
        BeamChart x = new BeamChart();
        Check.same("at first", 0, x::minute);
        x.pass(48);
        x.pass(48);
        x.pass(1);
        Check.same("beyond any period and tide", 97, x::minute);
        x.undo();
        Check.same("undone", 96, x::minute);
    }

    private static void promise42NoSuchLight() {
        Edge.noSuchLight("sightingsOf", (x, light) -> x.sightingsOf(light));
    }

    private static void promise42NoneYet() {
        BeamChart x = new BeamChart();
        x.addShip(0, 0, 5);
        x.pass(5);
        x.addLight(0, 0, 1, 8);
        Check.same("a new light", 0, () -> x.sightingsOf(0));
        Check.same("it sees the ship", 1, () -> x.seenBy(0));
        x.pass(1);
        Check.same("one minute", 1, () -> x.sightingsOf(0));
    }

    private static void promise43NoneYet() {
        BeamChart x = Edge.lights(6);
        Check.same("no ships", 0, x::sightings);
        x.pass(48);
        Check.same("no ships in 48 minutes", 0, x::sightings);
    }

    private static void promise43RemovedLightsIncluded() {
        BeamChart x = allLightsRemoved();
        Check.same("sightings", 10, x::sightings);
    }

    private static void promise44NoLightsAnyMore() {
        BeamChart x = allLightsRemoved();
        Check.same("sightings by lights", 10, x::sightingsByLights);
    }

    private static void promise44NoneYet() {
        Check.same("no lights", 0, () -> new BeamChart().sightingsByLights());
        Check.same("no ships", 0, () -> Edge.lights(6).sightingsByLights());
    }

    private static void promise44PresentAndRemovedLights() {
        BeamChart x = new BeamChart();
        for (int light = 0; light < 6; light++) {
            x.addLight(light, 0, 1, 24);
        }
        x.addShip(0, 0, 5);
        x.addShip(3, 0, 5);
        x.addShip(5, 0, 5);
        // Each ship is seen by the light on its cell, and each but the first by the one beside it.
        Check.same("of the present ones", 10, () -> x.pass(2));
        Check.same("of the present ones", 10, x::sightingsByLights);
        x.removeLight(0);
        Check.same("of the first light too", 10, x::sightingsByLights);
        x.removeLight(4);
        Check.same("of the last light too", 10, x::sightingsByLights);
        Check.same("the same number", 10, x::sightings);
    }

    private static BeamChart allLightsRemoved() {
        BeamChart x = new BeamChart();
        x.addLight(0, 0, 1, 8);
        x.addLight(7, 7, 1, 8);
        x.addShip(0, 0, 5);
        x.addShip(7, 7, 5);
        x.pass(5);
        x.removeLight(0);
        x.removeLight(0);
        x.pass(5);
        return x;
    }

    private static void promise45NoneAndAll() {
        BeamChart x = Edge.ships(6);
        x.pass(1);
        Check.same("none", 0, x::wrecks);
        for (int column = 0; column < 6; column++) {
            x.setDepth(column, 1, 4);
        }
        Check.same("not before the minute", 0, x::wrecks);
        x.pass(12);
        Check.same("all, each one once", 6, x::wrecks);
    }

    private static void promise45SalvagedOnesIncluded() {
        BeamChart x = new BeamChart();
        x.addShip(0, 0, 5);
        x.setDepth(0, 0, 1);
        x.pass(1);
        x.salvage(0);
        Check.same("so far", 1, x::wrecks);
        x.addShip(0, 0, 1);
        x.setDepth(0, 0, 0);
        x.pass(1);
        Check.same("one more", 2, x::wrecks);
    }

    private static void promise46NoneAndSum() {
        BeamChart x = new BeamChart();
        Check.same("nothing", 0, x::salvaged);
        x.setDepth(0, 0, 9);
        for (int ship = 0; ship < 6; ship++) {
            x.addShip(0, 0, 9);
        }
        x.setDepth(0, 0, 0);
        x.pass(1);
        Check.same("wrecked alone", 0, x::salvaged);
        for (int ship = 5; ship >= 0; ship--) {
            x.salvage(ship);
        }
        Check.same("six times 90", 540, x::salvaged);
    }

    private static void promise47AllLandAndAllDeep() {
        BeamChart x = new BeamChart();
        BeamChart y = new BeamChart();
        for (int cell = 0; cell < 64; cell++) {
            x.setDepth(cell % 8, cell / 8, 0);
            y.setDepth(cell % 8, cell / 8, 9);
        }
        Check.same("all land", 0.0, x::meanDepth);
        Check.same("all deep", 9.0, y::meanDepth);
        x.setDepth(7, 7, 1);
        Check.same("one cell", 0.015625, x::meanDepth);
    }

    private static void promise48NoShips() {
        BeamChart x = Edge.lights(1);
        Check.fails("no ships", ArithmeticException.class, x::seenShare);
        x.addShip(0, 0, 5);
        x.setDepth(0, 0, 1);
        x.pass(1);
        x.salvage(0);
        Check.fails("no ships any more", ArithmeticException.class, x::seenShare);
    }

    private static void promise48NoneAndAll() {
        BeamChart x = Edge.ships(6);
        Check.same("none", 0f, x::seenShare);
        for (int light = 0; light < 6; light++) {
            x.addLight(light, 1, 1, 8);
        }
        Check.same("all", 1f, x::seenShare);
        x.removeLight(0);
        x.pass(1);
        Check.same("all but one", 5f / 6f, x::seenShare);
    }

    // ---- feed

    private static void promise49SixtyCharacters() {
        BeamChart x = new BeamChart();
        for (int length = 1; length <= 60; length++) {
            int due = length;
            Check.same("length", due, () -> x.feed('x'));
        }
        Check.state("the 61st", () -> x.feed('x'));
        Check.state("the 62nd", () -> x.feed('x'));
        Check.argument("the text", x::execute);
        Check.same("it was kept as it was", 0, x::faultPosition);
        Check.same("room again", 1, () -> x.feed('x'));
    }

    private static void promise49AnyCharacter() {
        for (int sign : new int[] {0, 10, 32, 127, 128, 255, 256, 1632, 55296, 65535}) {
            BeamChart x = new BeamChart();
            Edge.feed(x, "wait 1");
            Check.same("sign " + sign, 7, () -> x.feed((char) sign));
            Check.argument("with the sign " + sign, x::execute);
            Check.same("fault at the sign " + sign, 6, x::faultPosition);
        }
    }

    // ---- execute

    private static void promise50EmptyBuffer() {
        BeamChart x = new BeamChart();
        Check.argument("nothing was fed", x::execute);
        Check.same("fault", 0, x::faultPosition);
        Check.same("a text", 1, () -> Check.execute(x, "wait 1"));
        Check.argument("nothing was fed again", x::execute);
        Check.same("minute", 1, x::minute);
    }

    private static void promise50FullBuffer() {
        BeamChart x = new BeamChart();
        String full = "ship 00 1;ship 01 1;ship 02 1;ship 03 1;ship 04 1;depth 77=1";
        Check.same("sixty", 60, full::length);
        Check.same("six commands", 6, () -> Check.execute(x, full));
        Check.same("the last one is complete", 1, () -> x.depth(7, 7));
        Check.same("room again", 1, () -> x.feed('w'));
    }

    private static void promise50OneAndMostCommands() {
        BeamChart x = new BeamChart();
        Check.same("one", 1, () -> Check.execute(x, "wait 1"));
        Check.same("eight", 8, () -> Check.execute(x, "wait 1;".repeat(7) + "wait 12"));
        Check.same("minute", 20, x::minute);
        Edge.fault("wait 1;".repeat(8) + "wait", 60);
    }

    private static void promise50EmptyAfterAllOutcomes() {
        BeamChart x = new BeamChart();
        Check.same("executed", 1, () -> Check.execute(x, "wait 1"));
        Check.same("empty", 1, () -> x.feed('w'));
        Check.argument("no match", x::execute);
        Check.same("empty", 1, () -> x.feed('w'));
        Edge.failedCommand("ait 0", x, 0, 9);
        Check.same("empty", 1, () -> x.feed('w'));
    }

    private static void promise50FirstCommandFails() {
        BeamChart x = new BeamChart();
        Edge.failedCommand("depth 00=5;depth 00=6", x, 0, 7);
        Check.same("the second one is not executed", 5, () -> x.depth(0, 0));
    }

    private static void promise50LastCommandFails() {
        BeamChart x = oneLightAndOneShip();
        Edge.failedCommand("wait 2;phase 0=3;depth 40=0;douse 0;wait 0", x, 4, 9);
        Check.same("three changes", 3, x::undoCount);
        String due = Check.portrait(oneLightAndOneShip());
        Check.same("none of them is executed", due, () -> Check.portrait(x));
    }

    private static BeamChart oneLightAndOneShip() {
        BeamChart x = new BeamChart();
        x.addLight(4, 4, 9, 8);
        x.addShip(4, 4, 5);
        x.steer(0, 6, 4);
        return x;
    }

    private static void promise50FaultBeforeDenial() {
        BeamChart x = new BeamChart();
        Check.argument("the first command would fail", () -> Check.execute(x, "wait 0;wait"));
        Check.noElement("no denial", x::denial);
        Check.same("fault", 11, x::faultPosition);
    }

    private static void promise50CommandsSeeTheEarlierOnes() {
        BeamChart x = new BeamChart();
        Check.same("six lights and one less", 8,
            () -> Check.execute(x, "wait 1;wait 1;wait 1;wait 1;wait 1;wait 1;wait 1;wait 1"));
        Check.same("a light that was added before", 3, () -> Check.execute(x, "light 00 1/8;phase 0=7;douse 0"));
        Edge.failedCommand("light 00 1/8;light 00 1/8", x, 1, 2);
        Edge.failedCommand("light 00 1/8;douse 0;phase 0=1", x, 2, 9);
        Edge.failedCommand("depth 00=0;ship 00 1", x, 1, 3);
    }

    private static void promise50IndicesOfLightsAndShips() {
        BeamChart x = Edge.lights(3);
        Check.same("the last light, then the first one", 2, () -> Check.execute(x, "douse 2;douse 0"));
        Check.same("the one between is left", 0, () -> x.lightOn(1, 0));
        BeamChart y = Edge.ships(3);
        y.setDepth(2, 1, 1);
        Check.same("the last ship", 2, () -> Check.execute(y, "wait 1;salvage 2"));
        Check.same("two are left", 2, y::shipCount);
    }

    private static void promise50EachDenialAsCause() {
        BeamChart full = Edge.lights(6);
        Edge.failedCommand("light 77 1/8", full, 0, 1);
        BeamChart ships = Edge.ships(6);
        Edge.failedCommand("ship 77 1", ships, 0, 1);
        Edge.failedCommand("light 00 1/8;light 00 1/8", new BeamChart(), 1, 2);
        Edge.failedCommand("ship 00 6", new BeamChart(), 0, 3);
        Edge.failedCommand("depth 77=4;ship 00 5;steer 0>77", new BeamChart(), 2, 4);
        Edge.failedCommand("ship 00 5;depth 00=1;wait 1;steer 0>00", new BeamChart(), 3, 5);
        Edge.failedCommand("ship 00 5;salvage 0", new BeamChart(), 1, 6);
        Edge.failedCommand("light 00 1/8;phase 0=0", new BeamChart(), 1, 7);
        Edge.failedCommand("depth 00=5", new BeamChart(), 0, 7);
    }

    private static void promise50IndexOutOfRangeAsCause() {
        BeamChart x = Edge.lights(1);
        x.addShip(7, 7, 5);
        Edge.failedCommand("depth 80=1", x, 0, 9);
        Edge.failedCommand("depth 08=1", x, 0, 9);
        Edge.failedCommand("light 80 1/8", x, 0, 9);
        Edge.failedCommand("light 09 1/8", x, 0, 9);
        Edge.failedCommand("phase 1=1", x, 0, 9);
        Edge.failedCommand("douse 1", x, 0, 9);
        Edge.failedCommand("douse 9", x, 0, 9);
        Edge.failedCommand("ship 80 1", x, 0, 9);
        Edge.failedCommand("ship 08 1", x, 0, 9);
        Edge.failedCommand("steer 1>00", x, 0, 9);
        Edge.failedCommand("steer 0>80", x, 0, 9);
        Edge.failedCommand("steer 0>08", x, 0, 9);
        Edge.failedCommand("salvage 1", x, 0, 9);
    }

    private static void promise50ValueOutOfRangeAsCause() {
        BeamChart x = Edge.lights(1);
        Edge.failedCommand("light 77 0/8", x, 0, 9);
        Edge.failedCommand("light 77 1/7", x, 0, 9);
        Edge.failedCommand("light 77 1/0", x, 0, 9);
        Edge.failedCommand("light 77 1/25", x, 0, 9);
        Edge.failedCommand("light 77 1/99", x, 0, 9);
        Edge.failedCommand("phase 0=8", x, 0, 9);
        Edge.failedCommand("phase 0=9", x, 0, 9);
        Edge.failedCommand("ship 77 0", x, 0, 9);
        Edge.failedCommand("wait 0", x, 0, 9);
        Edge.failedCommand("wait 00", x, 0, 9);
        Edge.failedCommand("wait 49", x, 0, 9);
        Edge.failedCommand("wait 99", x, 0, 9);
    }

    private static void promise50LeastAndGreatestValues() {
        BeamChart x = new BeamChart();
        Check.same("least", 5, () -> Check.execute(x, "depth 00=0;light 00 1/8;ship 77 1;wait 1;phase 0=1"));
        Check.same("greatest", 5, () -> Check.execute(x, "depth 77=9;light 77 9/24;ship 77 9;wait 48;phase 1=7"));
        Check.same("land", 0, () -> x.depth(0, 0));
        Check.same("range 1", 3, () -> x.reachedCells(0));
        Check.same("draught 1", "77d1~0", () -> Edge.ship(x, 0));
        Check.same("draught 9", "77d9~0", () -> Edge.ship(x, 1));
        Check.same("minute", 49, x::minute);
        Check.same("the greatest phase and period", (7 + 8 * 49 / 24) % 8, () -> x.beam(1));
    }

    // ---- faultPosition

    private static void promise51NoneYet() {
        BeamChart x = new BeamChart();
        Check.noElement("new", x::faultPosition);
        Check.execute(x, "wait 1");
        Edge.failedCommand("wait 0", x, 0, 9);
        Check.noElement("after texts that match", x::faultPosition);
    }

    private static void promise51TheLastOneIsKept() {
        BeamChart x = new BeamChart();
        Check.argument("first", () -> Check.execute(x, "wait 1x"));
        Check.same("first", 6, x::faultPosition);
        Check.argument("second", () -> Check.execute(x, "x"));
        Check.same("second", 0, x::faultPosition);
        Check.same("a text that matches", 1, () -> Check.execute(x, "wait 1"));
        Check.same("second still", 0, x::faultPosition);
        Edge.failedCommand("wait 1;wait 0", x, 1, 9);
        Check.same("second still", 0, x::faultPosition);
    }

    private static void promise51FirstAndLastPosition() {
        Edge.fault("?", 0);
        Edge.fault("?" + "x".repeat(59), 0);
        Edge.fault("wait 1;".repeat(7) + "salvage 00?", 58);
        Edge.fault("wait 1;".repeat(7) + "salvage 0;?", 59);
        Edge.fault("wait 1;".repeat(7) + "salvage 0;w", 60);
    }

    // ---- writeRow

    private static void promise52NoSuchRow() {
        BeamChart x = new BeamChart();
        for (int row : new int[] {-1, 8, 9, 64, Integer.MIN_VALUE, Integer.MAX_VALUE}) {
            Check.index("row " + row, () -> x.writeRow(row));
        }
        Check.same("first", 8, () -> x.writeRow(0));
        Check.same("last", 8, () -> x.writeRow(7));
    }

    private static void promise52FirstAndLastColumn() {
        BeamChart x = new BeamChart();
        x.addLight(0, 0, 1, 8);
        x.addShip(7, 0, 5);
        x.addShip(0, 7, 5);
        x.addLight(7, 7, 1, 8);
        x.setDepth(7, 1, 0);
        x.setDepth(0, 1, 9);
        Check.same("first row", "*555555S", () -> Edge.row(x, 0));
        Check.same("last row", "S555555*", () -> Edge.row(x, 7));
        Check.same("least and greatest depth", "95555550", () -> Edge.row(x, 1));
        x.pass(4);
        Check.same("without the tide", "95555550", () -> Edge.row(x, 1));
    }

    private static void promise52LightBeforeShips() {
        BeamChart x = new BeamChart();
        for (int column = 0; column < 3; column++) {
            x.addLight(column, 3, 1, 8);
        }
        x.addShip(0, 3, 1);
        x.addShip(1, 3, 5);
        x.setDepth(1, 3, 4);
        x.setDepth(2, 3, 0);
        x.pass(1);
        Check.same("over a ship afloat, a wreck and land", "***55555", () -> Edge.row(x, 3));
        x.removeLight(0);
        x.removeLight(0);
        x.removeLight(0);
        Check.same("without the lights", "SX055555", () -> Edge.row(x, 3));
    }

    private static void promise52WreckBeforeShipsAfloat() {
        BeamChart x = new BeamChart();
        x.addShip(2, 2, 5);
        x.addShip(2, 2, 1);
        x.addShip(4, 2, 1);
        x.addShip(4, 2, 5);
        x.addShip(6, 2, 1);
        x.addShip(6, 2, 2);
        x.setDepth(2, 2, 3);
        x.setDepth(4, 2, 3);
        Check.same("not before the minute", "55S5S5S5", () -> Edge.row(x, 2));
        x.pass(1);
        Check.same("whichever came first", "55X5X5S5", () -> Edge.row(x, 2));
    }

    // ---- writeShip

    private static void promise53NoSuchShip() {
        Edge.noSuchShip("writeShip", (x, ship) -> x.writeShip(ship));
    }

    private static void promise53ShortestAndLongest() {
        BeamChart x = new BeamChart();
        x.addShip(0, 0, 1);
        Check.same("shortest", 6, () -> x.writeShip(0));
        Check.same("shortest", "00d1~0", () -> Check.line(x, 6));
        x.setDepth(1, 0, 0);
        x.setDepth(0, 1, 0);
        for (int pass = 0; pass < 209; pass++) {
            x.pass(48);
        }
        x.setDepth(1, 0, 5);
        x.steer(0, 7, 7);
        x.setDepth(1, 0, 0);
        Check.same("longest", 13, () -> x.writeShip(0));
        Check.same("longest", "00d1>77~10032", () -> Check.line(x, 13));
    }

    private static void promise53Wrecked() {
        BeamChart x = new BeamChart();
        x.addShip(3, 4, 5);
        x.steer(0, 7, 0);
        x.pass(9);
        for (int[] shut : new int[][] {{7, 1}, {6, 0}}) {
            x.setDepth(shut[0], shut[1], 1);
        }
        Check.same("arrived", "70d5~9", () -> Edge.ship(x, 0));
        x.setDepth(7, 0, 1);
        x.pass(1);
        Check.same("wrecked, with the dark minutes before it", "70d5!~9", () -> Edge.ship(x, 0));
        Check.same("length", 7, () -> x.writeShip(0));
    }

    private static void promise53TheExample() {
        BeamChart x = new BeamChart();
        x.setDepth(3, 4, 6);
        x.setDepth(3, 3, 0);
        x.setDepth(3, 5, 0);
        x.setDepth(2, 4, 0);
        x.setDepth(4, 4, 0);
        x.pass(2);
        x.addShip(3, 4, 6);
        x.pass(2);
        x.setDepth(4, 4, 4);
        x.steer(0, 7, 0);
        Check.same("example", "34d6>70~2", () -> Edge.ship(x, 0));
    }

    // ---- lineCharacter

    private static void promise54EmptyLine() {
        BeamChart x = new BeamChart();
        for (int index : new int[] {-1, 0, 1, Integer.MIN_VALUE, Integer.MAX_VALUE}) {
            Check.index("index " + index, () -> x.lineCharacter(index));
        }
    }

    private static void promise54FirstAndLastIndex() {
        BeamChart x = Edge.ships(1);
        x.writeRow(1);
        Check.index("before the first", () -> x.lineCharacter(-1));
        Check.same("first", 'S', () -> x.lineCharacter(0));
        Check.same("last", '5', () -> x.lineCharacter(7));
        Check.index("behind the last", () -> x.lineCharacter(8));
        Check.index("least", () -> x.lineCharacter(Integer.MIN_VALUE));
        Check.index("greatest", () -> x.lineCharacter(Integer.MAX_VALUE));
    }

    private static void promise54ShorterAndLongerLine() {
        BeamChart x = Edge.ships(1);
        x.writeRow(0);
        x.writeShip(0);
        Check.same("last of the shorter line", '0', () -> x.lineCharacter(5));
        Check.index("behind it", () -> x.lineCharacter(6));
        x.writeRow(1);
        Check.same("last of the longer line", '5', () -> x.lineCharacter(7));
        Check.same("first of the longer line", 'S', () -> x.lineCharacter(0));
    }

    private static void promise54RefusedLineIsNotWritten() {
        BeamChart x = Edge.ships(1);
        x.writeShip(0);
        Check.index("no such row", () -> x.writeRow(8));
        Check.index("no such ship", () -> x.writeShip(1));
        Check.same("the line before", "01d5~0", () -> Check.line(x, 6));
    }

    private static void promise54LineStaysAsItWasWritten() {
        BeamChart x = Edge.ships(1);
        x.writeShip(0);
        x.pass(3);
        Check.same("written before the minutes passed", "01d5~0", () -> Check.line(x, 6));
    }

    // ---- the latest denial

    private static void promise55NothingDeniedYet() {
        BeamChart x = afterOtherExceptions();
        Check.noElement("denial", x::denial);
    }

    private static void promise55FromOneToEight() {
        BeamChart x = Edge.lights(6);
        Check.fails("limit", UnsupportedOperationException.class, () -> x.addLight(7, 7, 1, 8));
        Check.same("least", 1, x::denial);
        Check.fails("text", UnsupportedOperationException.class, () -> Check.execute(x, "wait 0"));
        Check.same("greatest", 8, x::denial);
    }

    private static void promise56NothingDeniedYet() {
        BeamChart x = afterOtherExceptions();
        Check.noElement("denialDetail", x::denialDetail);
    }

    private static void promise56DetailZero() {
        BeamChart x = Edge.lights(1);
        Check.fails("light 0", UnsupportedOperationException.class, () -> x.addLight(0, 0, 1, 8));
        Check.same("its index", 0, x::denialDetail);
        x.setDepth(7, 7, 0);
        Check.fails("land", UnsupportedOperationException.class, () -> x.addShip(7, 7, 1));
        Check.same("its water", 0, x::denialDetail);
    }

    private static void promise57NothingDeniedYet() {
        BeamChart x = afterOtherExceptions();
        Check.noElement("denialCause", x::denialCause);
    }

    private static void promise57NoCause() {
        BeamChart x = new BeamChart();
        Check.fails("present value", UnsupportedOperationException.class, () -> x.setDepth(0, 0, 5));
        Check.noElement("a denial other than 8", x::denialCause);
        Edge.failedCommand("depth 00=5", x, 0, 7);
        Check.fails("too shallow", UnsupportedOperationException.class, () -> x.addShip(0, 0, 6));
        Check.noElement("a denial other than 8 after one with a cause", x::denialCause);
    }

    private static void promise57SevenAndNine() {
        BeamChart x = new BeamChart();
        Edge.failedCommand("depth 00=5", x, 0, 7);
        Edge.failedCommand("wait 0", x, 0, 9);
        Edge.failedCommand("depth 00=6;depth 00=6", x, 1, 7);
    }

    private static BeamChart afterOtherExceptions() {
        BeamChart x = new BeamChart();
        Check.index("no such cell", () -> x.setDepth(8, 8, 1));
        Check.argument("no minutes", () -> x.pass(0));
        Check.argument("no text", x::execute);
        Check.noElement("no such rank", () -> x.shipByDarkness(0));
        Check.state("no snapshot", x::restoreSnapshot);
        return x;
    }

    // ---- undo and snapshots

    private static void promise58NothingToUndo() {
        BeamChart x = new BeamChart();
        Check.state("a new object", x::undo);
        x.pass(1);
        Check.same("one", 0, x::undo);
        Check.state("it is undone", x::undo);
        Check.same("minute", 0, x::minute);
    }

    private static void promise58EightAndNoMore() {
        BeamChart x = new BeamChart();
        for (int depth = 6; depth < 10; depth++) {
            x.setDepth(0, 0, depth);
            x.setDepth(1, 0, depth);
        }
        x.setDepth(0, 0, 1);
        for (int left = 7; left >= 0; left--) {
            int due = left;
            Check.same("undo", due, x::undo);
        }
        Check.state("no more", x::undo);
        Check.same("the ninth one stays", 6, () -> x.depth(0, 0));
        Check.same("the eighth one is undone", 5, () -> x.depth(1, 0));
    }

    private static void promise58ChangeAfterUndo() {
        BeamChart x = new BeamChart();
        for (int change = 0; change < 20; change++) {
            x.pass(1);
        }
        x.undo();
        x.undo();
        x.pass(10);
        Check.same("seven", 7, x::undoCount);
        x.undo();
        Check.same("before the new change", 18, x::minute);
        Check.same("before the older one", 5, x::undo);
        Check.same("before the older one", 17, x::minute);
    }

    private static void promise58UndoIsNoChange() {
        BeamChart x = new BeamChart();
        x.pass(1);
        x.pass(2);
        x.undo();
        x.undo();
        Check.state("it can't be undone itself", x::undo);
        Check.same("minute", 0, x::minute);
    }

    private static void promise58EachKindOfChange() {
        // Each text is undone on its own, and all of what the calls tell must be as before.
        String[] texts = {"depth 22=0", "light 34 9/24", "phase 1=3", "douse 0", "douse 1", "ship 55 5", "steer 1>77",
            "steer 1>11", "salvage 0", "wait 48"};
        for (String text : texts) {
            String due = Check.portrait(oneOfAll());
            BeamChart byText = oneOfAll();
            Check.execute(byText, text);
            Check.same(text, 7, byText::undo);
            Check.same("after the undo of " + text, due, () -> Check.portrait(byText));
        }
    }

    private static void promise58EachMethodThatChanges() {
        for (int method = 0; method < 8; method++) {
            BeamChart x = oneOfAll();
            change(x, method);
            Check.same("method " + method, 7, x::undo);
            String due = Check.portrait(oneOfAll());
            Check.same("after the undo of the method " + method, due, () -> Check.portrait(x));
        }
    }

    private static void change(BeamChart x, int method) {
        switch (method) {
            case 0:
                x.setDepth(2, 2, 0);
                break;
            case 1:
                x.addLight(3, 4, 9, 24);
                break;
            case 2:
                x.setPhase(1, 3);
                break;
            case 3:
                x.removeLight(0);
                break;
            case 4:
                x.addShip(5, 5, 5);
                break;
            case 5:
                x.steer(1, 7, 7);
                break;
            case 6:
                x.salvage(0);
                break;
            default:
                x.pass(48);
        }
    }

    /** Two lights with sightings, a wreck and a ship on its way, after more than eight changes. */
    private static BeamChart oneOfAll() {
        BeamChart x = new BeamChart();
        x.addLight(0, 0, 5, 9);
        x.addLight(1, 0, 4, 24);
        x.setPhase(0, 6);
        x.setPhase(1, 2);
        x.addShip(0, 0, 4);
        x.addShip(1, 0, 3);
        x.steer(1, 1, 6);
        x.pass(1);
        x.setDepth(0, 0, 2);
        x.pass(2);
        return x;
    }

    private static void promise58ChangeWithoutEffect() {
        BeamChart x = Edge.ships(1);
        x.pass(1);
        x.steer(0, 0, 1);
        Check.same("steered to its own cell without a goal", 2, x::undo);
        Check.same("that alone is undone", 1, x::minute);
    }

    private static void promise59FromZeroToEight() {
        BeamChart x = new BeamChart();
        for (int change = 0; change < 12; change++) {
            int due = Math.min(change, 8);
            Check.same("after " + change, due, x::undoCount);
            x.pass(1);
        }
    }

    private static void promise59AfterRestore() {
        BeamChart x = new BeamChart();
        x.saveSnapshot();
        x.pass(1);
        Check.same("saving is no change", 1, x::undoCount);
        x.restoreSnapshot();
        Check.same("none", 0, x::undoCount);
        x.pass(1);
        Check.same("one", 1, x::undoCount);
    }

    private static void promise60NoneAndSixShips() {
        Check.same("no ships", 0, () -> new BeamChart().saveSnapshot());
        Check.same("six ships", 6, () -> Edge.ships(6).saveSnapshot());
    }

    private static void promise60ReplacesTheEarlierOne() {
        BeamChart x = Edge.ships(2);
        x.saveSnapshot();
        x.addShip(7, 7, 5);
        Check.same("the later one", 3, x::saveSnapshot);
        x.addShip(7, 7, 5);
        Check.same("restored", 3, x::restoreSnapshot);
    }

    private static void promise60LaterChangesAreNotInIt() {
        BeamChart x = Edge.ships(1);
        x.addLight(0, 0, 1, 8);
        x.saveSnapshot();
        x.setDepth(5, 5, 0);
        x.setPhase(0, 3);
        x.steer(0, 3, 3);
        x.pass(5);
        x.restoreSnapshot();
        Check.same("depth", 5, () -> x.depth(5, 5));
        Check.same("beam", 0, () -> x.beam(0));
        Check.same("ship", "01d5~0", () -> Edge.ship(x, 0));
        Check.same("minute", 0, x::minute);
        Check.same("sightings", 0, x::sightings);
    }

    private static void promise61NoSnapshot() {
        BeamChart x = new BeamChart();
        x.pass(1);
        Check.state("none was saved", x::restoreSnapshot);
        Check.same("the change can still be undone", 0, x::undo);
    }

    private static void promise61IsKept() {
        BeamChart x = Edge.ships(6);
        x.saveSnapshot();
        for (int time = 0; time < 3; time++) {
            x.setDepth(0, 1, 0);
            x.pass(1);
            x.salvage(0);
            Check.same("time " + time, 6, x::restoreSnapshot);
            Check.same("depth", 5, () -> x.depth(0, 1));
            Check.same("wrecks", 0, x::wrecks);
            Check.same("salvaged", 0, x::salvaged);
            Check.same("ship", "01d5~0", () -> Edge.ship(x, 0));
        }
    }

    private static void promise61NothingToUndo() {
        BeamChart x = Edge.ships(2);
        x.saveSnapshot();
        x.restoreSnapshot();
        Check.state("changes before the snapshot", x::undo);
        x.pass(1);
        x.restoreSnapshot();
        Check.state("changes after it", x::undo);
        x.pass(1);
        Check.same("a change after the restoring", 0, x::undo);
        Check.same("minute", 0, x::minute);
    }

    private static void promise61AfterUndo() {
        BeamChart x = Edge.ships(1);
        x.saveSnapshot();
        x.undo();
        Check.same("undone", 0, x::shipCount);
        Check.same("undo leaves the snapshot", 1, x::restoreSnapshot);
        Check.same("ship", "01d5~0", () -> Edge.ship(x, 0));
    }
}
