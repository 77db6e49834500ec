/** Promises 49 to 54. */
public final class TextsTest {
    public static void main(String[] args) {
        promise49Feed();
        promise50EachCommand();
        promise50SeveralCommands();
        promise50AllOrNone();
        promise50DeniedCommands();
        promise50CommandsWithOtherExceptions();
        promise50FullBuffer();
        promise51FaultPositions();
        promise51KeptFault();
        promise52WriteRow();
        promise53WriteShip();
        promise54LineCharacter();
        Check.end("TextsTest");
    }

    private static void promise49Feed() {
        BeamChart x = new BeamChart();
        char[] signs = {'a', ' ', (char) 0, (char) 255, (char) 256, Character.MAX_VALUE};
        for (int length = 1; length <= 60; length++) {
            int due = length;
            Check.same("feed", due, () -> x.feed(signs[due % signs.length]));
        }
        Check.state("full", () -> x.feed('a'));
        Check.state("still full", () -> x.feed(';'));
        Check.argument("no command", x::execute);
        Check.same("empty again", 1, () -> x.feed('w'));
    }

    private static void promise50EachCommand() {
        BeamChart x = new BeamChart();
        Check.same("depth", 1, () -> Check.execute(x, "depth 34=9"));
        Check.same("depth is set", 9, () -> x.depth(3, 4));
        Check.same("light", 1, () -> Check.execute(x, "light 12 2/24"));
        Check.same("light is there", 0, () -> x.lightOn(1, 2));
        Check.same("range 2", true, () -> x.reaches(0, 3, 2));
        Check.same("not 3", false, () -> x.reaches(0, 4, 2));
        Check.same("period 24", 21, () -> x.minutesUntilSwept(0, 2, 1));
        Check.same("another light", 1, () -> Check.execute(x, "light 70 1/8"));
        Check.same("period 8", 4, () -> x.minutesUntilSwept(1, 6, 0));
        Check.same("phase", 1, () -> Check.execute(x, "phase 1=6"));
        Check.same("phase is set", 6, () -> x.beam(1));
        Check.same("douse", 1, () -> Check.execute(x, "douse 0"));
        Check.same("the other one is left", 0, () -> x.lightOn(7, 0));
        Check.same("ship", 1, () -> Check.execute(x, "ship 20 5"));
        Check.same("ship is there", "20d5~0", () -> Check.line(x, x.writeShip(0)));
        Check.same("steer", 1, () -> Check.execute(x, "steer 0>67"));
        Check.same("goal", "20d5>67~0", () -> Check.line(x, x.writeShip(0)));
        Check.same("wait", 1, () -> Check.execute(x, "wait 2"));
        Check.same("moved", "22d5>67~2", () -> Check.line(x, x.writeShip(0)));
        Check.same("two digits", 1, () -> Check.execute(x, "wait 11"));
        Check.same("minutes", 13, x::minute);
        x.setDepth(6, 7, 0);
        x.pass(1);
        Check.same("salvage", 1, () -> Check.execute(x, "salvage 0"));
        Check.same("salvaged", 50, x::salvaged);
        Check.same("a leading zero", 1, () -> Check.execute(x, "wait 07"));
        Check.same("seven minutes", 21, x::minute);
        Check.same("a leading zero of a period", 1, () -> Check.execute(x, "light 00 1/08"));
    }

    private static void promise50SeveralCommands() {
        BeamChart x = new BeamChart();
        Check.same("three", 3, () -> Check.execute(x, "depth 00=1;depth 00=2;wait 1"));
        Check.same("in their order", 2, () -> x.depth(0, 0));
        Check.same("one change", 1, x::undoCount);
        Check.same("the later see what the earlier did", 4,
            () -> Check.execute(x, "ship 11 5;steer 0>13;wait 2;steer 0>13"));
        Check.same("arrived", "13d5~2", () -> Check.line(x, x.writeShip(0)));
        Check.same("two changes", 2, x::undoCount);
        Check.noElement("no denial", x::denial);
        Check.noElement("no fault", x::faultPosition);
    }

    private static void promise50AllOrNone() {
        BeamChart x = new BeamChart();
        x.addLight(1, 1, 1, 8);
        x.addShip(1, 1, 5);
        x.addShip(6, 6, 5);
        x.steer(1, 6, 5);
        x.setDepth(1, 1, 4);
        String before = Check.portrait(x);
        // The commands before the last one alter depths, lights, ships, the minute and all sums.
        Check.fails("denied", UnsupportedOperationException.class,
            () -> Check.execute(x, "wait 1;salvage 0;douse 0;depth 77=1;depth 00=5"));
        Check.same("the denial", 8, x::denial);
        Check.same("of the fifth command", 4, x::denialDetail);
        Check.same("cause", 7, x::denialCause);
        String after = Check.portrait(x);
        Check.same("nothing has changed", before, () -> after);
        Check.same("no change is counted", 5, x::undoCount);
        Check.same("the buffer is empty", 1, () -> x.feed('w'));
        Check.fails("a text that does not match does nothing", IllegalArgumentException.class,
            () -> Check.execute(x, "ait 1;wait"));
        Check.same("no minute passed", 0, x::minute);
        Check.same("the buffer is empty again", 1, () -> x.feed('w'));
    }

    private static void promise50DeniedCommands() {
        BeamChart x = new BeamChart();
        x.addLight(0, 0, 1, 8);
        x.setDepth(1, 0, 0);
        fails(x, "depth 00=5", 0, 7);
        fails(x, "wait 1;depth 00=6;depth 00=6", 2, 7);
        fails(x, "light 00 1/8", 0, 2);
        fails(x, "ship 00 6", 0, 3);
        fails(x, "wait 2;ship 10 1", 1, 3);
        fails(x, "ship 00 5;steer 0>10", 1, 4);
        fails(x, "ship 00 5;depth 00=0;wait 1;steer 0>00", 3, 5);
        fails(x, "ship 00 5;salvage 0", 1, 6);
        fails(x, "phase 0=0", 0, 7);
        nothingIsExecuted(x);
    }

    private static void promise50CommandsWithOtherExceptions() {
        BeamChart x = new BeamChart();
        x.addLight(0, 0, 1, 8);
        fails(x, "depth 80=1", 0, 9);
        fails(x, "depth 08=1", 0, 9);
        fails(x, "depth 11=6;light 11 0/8", 1, 9);
        fails(x, "light 11 1/7", 0, 9);
        fails(x, "light 11 1/25", 0, 9);
        fails(x, "phase 0=8", 0, 9);
        fails(x, "phase 1=0", 0, 9);
        fails(x, "douse 1", 0, 9);
        fails(x, "douse 0;douse 0", 1, 9);
        fails(x, "ship 00 0", 0, 9);
        fails(x, "ship 90 1", 0, 9);
        fails(x, "steer 0>00", 0, 9);
        fails(x, "ship 00 1;steer 0>08", 1, 9);
        fails(x, "salvage 0", 0, 9);
        fails(x, "wait 0", 0, 9);
        fails(x, "wait 00", 0, 9);
        fails(x, "wait 49", 0, 9);
        fails(x, "wait 48;wait 99", 1, 9);
        nothingIsExecuted(x);
    }

    private static void nothingIsExecuted(BeamChart x) {
        Check.same("no minute passed", 0, x::minute);
        Check.same("no ship came", 0, x::shipCount);
        Check.same("the light is left", 1, x::lightCount);
        Check.noElement("no fault was kept", x::faultPosition);
    }

    private static void fails(BeamChart x, String text, int command, int cause) {
        Check.fails(text, UnsupportedOperationException.class, () -> Check.execute(x, text));
        Check.same(text + ": denial", 8, x::denial);
        Check.same(text + ": command", command, x::denialDetail);
        Check.same(text + ": cause", cause, x::denialCause);
    }

    private static void promise50FullBuffer() {
        BeamChart x = new BeamChart();
        Check.same("eight commands", 8,
            () -> Check.execute(x, "wait 1;wait 2;wait 3;wait 4;wait 5;wait 6;wait 7;wait 12"));
        Check.same("their minutes", 40, x::minute);
        String full = "depth 00=1;depth 01=1;depth 02=1;depth 03=1;depth 04=1;wait ";
        Check.same("60 characters", 60, full::length);
        fault(x, full, 60);
        fault(x, "wait 1;".repeat(8) + "wait", 60);
        fault(x, "wait 1;".repeat(8) + "waxx", 58);
        fault(x, "wait 1;".repeat(8), 56);
        Check.same("60 characters that match", 6,
            () -> Check.execute(x, "depth 00=1;depth 00=2;depth 00=3;wait 1;wait 2;light 11 9/24"));
        Check.same("six ships", 6,
            () -> Check.execute(x, "ship 00 1;ship 00 1;ship 00 1;ship 00 1;ship 00 1;ship 00 1"));
        fails(x, "ship 00 1", 0, 1);
    }

    private static void promise51FaultPositions() {
        Check.noElement("none was kept yet", () -> new BeamChart().faultPosition());
        Edge.fault("", 0);
        Edge.fault("x", 0);
        Edge.fault(";", 0);
        Edge.fault(" wait 1", 0);
        Edge.fault("Wait 1", 0);
        Edge.fault("d", 1);
        Edge.fault("dx", 1);
        Edge.fault("de", 2);
        Edge.fault("dep", 3);
        Edge.fault("depuse", 3);
        Edge.fault("do", 2);
        Edge.fault("doth 00=1", 2);
        Edge.fault("s", 1);
        Edge.fault("sz", 1);
        Edge.fault("sh", 2);
        Edge.fault("st", 2);
        Edge.fault("sa", 2);
        Edge.fault("shteer", 2);
        Edge.fault("salvage", 7);
        Edge.fault("salvage ", 8);
        Edge.fault("salvage x", 8);
        Edge.fault("salvage 00", 9);
        Edge.fault("depth 00", 8);
        Edge.fault("depth  0", 6);
        Edge.fault("depth 0", 7);
        Edge.fault("depth 0=", 7);
        Edge.fault("depth 00-", 8);
        Edge.fault("depth 00=", 9);
        Edge.fault("depth 00=10", 10);
        Edge.fault("depth 00=1 ", 10);
        Edge.fault("depth 00=1;", 11);
        Edge.fault("depth 00=1;;", 11);
        Edge.fault("depth 00=1; wait 1", 11);
        Edge.fault("depth 00=1;wai", 14);
        Edge.fault("depth 00=1;waix", 14);
        Edge.fault("light 00 1", 10);
        Edge.fault("light 00 1 8", 10);
        Edge.fault("light 00 10/8", 10);
        Edge.fault("light 00 1/", 11);
        Edge.fault("light 00 1/x", 11);
        Edge.fault("light 00 1/8x", 12);
        Edge.fault("light 00 1/123", 13);
        Edge.fault("light 00 1/12;", 14);
        Edge.fault("phase 0", 7);
        Edge.fault("phase 00=1", 7);
        Edge.fault("phase 0=12", 9);
        Edge.fault("douse", 5);
        Edge.fault("douse 12", 7);
        Edge.fault("ship 00", 7);
        Edge.fault("ship 001", 7);
        Edge.fault("ship 00 12", 9);
        Edge.fault("steer 0=00", 7);
        Edge.fault("steer 0>0", 9);
        Edge.fault("steer 0>00>", 10);
        Edge.fault("wait", 4);
        Edge.fault("wait ", 5);
        Edge.fault("wait  1", 5);
        Edge.fault("wait -1", 5);
        Edge.fault("wait 1 ", 6);
        Edge.fault("wait 123", 7);
        Edge.fault("wait 1\u0000", 6);
        Edge.fault("wait \u0000", 5);
        Edge.fault("wait \u0661", 5);
        Edge.fault("wait #", 5);
        Edge.fault("wait N", 5);
        Edge.fault("depth ##=#", 6);
        Edge.fault("w\u0161it", 1);
    }

    private static void fault(BeamChart x, String text, int due) {
        Check.argument("text " + text, () -> Check.execute(x, text));
        Check.same("fault position of " + text, due, x::faultPosition);
    }

    private static void promise51KeptFault() {
        BeamChart x = new BeamChart();
        fault(x, "wait 1;wait 99;waste", 17);
        Check.same("no minute passed before the fault", 0, x::minute);
        Check.same("a text that matches", 1, () -> Check.execute(x, "wait 9"));
        Check.same("the fault is kept", 17, x::faultPosition);
        Check.fails("a text that is denied", UnsupportedOperationException.class, () -> Check.execute(x, "wait 0"));
        Check.same("it is still kept", 17, x::faultPosition);
        fault(x, "wait 0;z", 7);
        x.undo();
        x.saveSnapshot();
        x.restoreSnapshot();
        Check.same("neither undo nor snapshots change it", 7, x::faultPosition);
    }

    private static void promise52WriteRow() {
        BeamChart x = new BeamChart();
        Check.same("length", 8, () -> x.writeRow(3));
        Check.same("depths", "55555555", () -> Check.line(x, 8));
        x.addLight(2, 3, 1, 8);
        x.setDepth(3, 3, 0);
        x.addShip(5, 3, 1);
        row(x, 3, "55*05S55");
        x.addShip(2, 3, 1);
        x.addShip(7, 3, 5);
        x.addShip(7, 3, 4);
        x.setDepth(7, 3, 4);
        x.setDepth(6, 3, 9);
        row(x, 3, "55*05S9S");
        x.pass(1);
        row(x, 3, "55*05S9X");
        x.addLight(7, 3, 1, 8);
        row(x, 3, "55*05S9*");
        x.removeLight(0);
        row(x, 3, "55S05S9*");
        x.pass(4);
        row(x, 0, "55555555");
        row(x, 7, "55555555");
        for (int wrong : new int[] {-1, 8, Integer.MIN_VALUE, Integer.MAX_VALUE}) {
            Check.index("writeRow " + wrong, () -> x.writeRow(wrong));
        }
    }

    private static void row(BeamChart x, int row, String due) {
        Check.same("row " + row, due, () -> Check.line(x, x.writeRow(row)));
    }

    private static void promise53WriteShip() {
        BeamChart x = new BeamChart();
        x.addShip(3, 4, 5);
        x.addShip(7, 0, 1);
        Check.same("length", 6, () -> x.writeShip(0));
        Check.same("ship 0", "34d5~0", () -> Check.line(x, x.writeShip(0)));
        x.steer(0, 7, 0);
        Check.same("with its goal", "34d5>70~0", () -> Check.line(x, x.writeShip(0)));
        Check.same("length with goal", 9, () -> x.writeShip(0));
        x.pass(12);
        Check.same("two digits", "70d5~12", () -> Check.line(x, x.writeShip(0)));
        Check.same("the other one", "70d1~12", () -> Check.line(x, x.writeShip(1)));
        x.setDepth(7, 0, 1);
        x.pass(1);
        Check.same("wrecked", "70d5!~12", () -> Check.line(x, x.writeShip(0)));
        Check.same("afloat", "70d1~13", () -> Check.line(x, x.writeShip(1)));
        for (int passed = 0; passed < 3; passed++) {
            x.pass(48);
        }
        Check.same("three digits", "70d1~157", () -> Check.line(x, x.writeShip(1)));
        for (int ship : new int[] {-1, 2, 6, Integer.MIN_VALUE, Integer.MAX_VALUE}) {
            Check.index("writeShip " + ship, () -> x.writeShip(ship));
        }
    }

    private static void promise54LineCharacter() {
        BeamChart x = new BeamChart();
        Check.index("empty at first", () -> x.lineCharacter(0));
        x.addShip(3, 4, 5);
        x.writeRow(4);
        Check.same("first", '5', () -> x.lineCharacter(0));
        Check.same("fourth", 'S', () -> x.lineCharacter(3));
        Check.same("last", '5', () -> x.lineCharacter(7));
        Check.index("behind the last", () -> x.lineCharacter(8));
        Check.index("-1", () -> x.lineCharacter(-1));
        Check.index("least", () -> x.lineCharacter(Integer.MIN_VALUE));
        Check.index("most", () -> x.lineCharacter(Integer.MAX_VALUE));
        x.writeShip(0);
        Check.same("replaced", 'd', () -> x.lineCharacter(2));
        Check.index("the shorter line ends", () -> x.lineCharacter(6));
        Check.index("a refused row", () -> x.writeRow(8));
        Check.index("a refused ship", () -> x.writeShip(1));
        x.setDepth(0, 0, 1);
        x.undo();
        x.saveSnapshot();
        x.restoreSnapshot();
        Check.same("the line stays", '~', () -> x.lineCharacter(4));
    }
}
