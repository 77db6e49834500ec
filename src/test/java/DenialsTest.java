/** Promises 55 to 57, for all nine numbers; the other tests have the denials of each call. */
public final class DenialsTest {
    public static void main(String[] args) {
        promises55To57WithoutDenial();
        promises55To57EachNumber();
        promises55To57Kept();
        Check.end("DenialsTest");
    }

    private static void promises55To57WithoutDenial() {
        BeamChart x = new BeamChart();
        Check.noElement("denial", x::denial);
        Check.noElement("denialDetail", x::denialDetail);
        Check.noElement("denialCause", x::denialCause);
        Check.argument("another exception", () -> x.pass(0));
        Check.index("another exception", () -> x.removeLight(0));
        Check.argument("a text that does not match", x::execute);
        Check.noElement("still no denial", x::denial);
        Check.noElement("still no detail", x::denialDetail);
        Check.noElement("still no cause", x::denialCause);
    }

    private static void promises55To57EachNumber() {
        BeamChart x = new BeamChart();
        for (int light = 0; light < 6; light++) {
            x.addLight(light, 0, 1, 8);
        }
        Check.denied("limit", x, 1, 6, () -> x.addLight(6, 0, 1, 8));
        x.removeLight(5);
        Check.denied("light on cell", x, 2, 4, () -> x.addLight(4, 0, 1, 8));
        Check.denied("too shallow", x, 3, 5, () -> x.addShip(0, 0, 9));
        x.addShip(0, 0, 1);
        x.addShip(0, 0, 5);
        x.setDepth(7, 7, 4);
        Check.denied("no way", x, 4, 1, () -> x.steer(1, 7, 7));
        Check.denied("afloat", x, 6, 1, () -> x.salvage(1));
        x.setDepth(0, 0, 2);
        x.pass(1);
        Check.denied("wrecked", x, 5, 1, () -> x.steer(1, 0, 0));
        Check.denied("present value", x, 7, 2, () -> x.setDepth(0, 0, 2));
        Check.fails("command", UnsupportedOperationException.class, () -> Check.execute(x, "wait 1;steer 1>00"));
        Check.same("denial", 8, x::denial);
        Check.same("its detail", 1, x::denialDetail);
        Check.same("its cause", 5, x::denialCause);
        Check.fails("command", UnsupportedOperationException.class, () -> Check.execute(x, "wait 0;steer 1>00"));
        Check.same("denial", 8, x::denial);
        Check.same("its detail", 0, x::denialDetail);
        Check.same("its cause", 9, x::denialCause);
        Check.denied("a later denial has no cause", x, 7, 2, () -> x.setDepth(0, 0, 2));
    }

    private static void promises55To57Kept() {
        BeamChart x = new BeamChart();
        x.saveSnapshot();
        Check.denied("present value", x, 7, 5, () -> x.setDepth(0, 0, 5));
        x.setDepth(0, 0, 6);
        x.pass(1);
        Check.index("another exception", () -> x.setDepth(8, 0, 6));
        Check.noElement("another exception", () -> x.lightOn(0, 0));
        x.undo();
        x.undo();
        Check.state("another exception", x::undo);
        x.restoreSnapshot();
        Check.same("kept number", 7, x::denial);
        Check.same("kept detail", 5, x::denialDetail);
        Check.noElement("no cause", x::denialCause);
        Check.fails("command", UnsupportedOperationException.class, () -> Check.execute(x, "douse 0"));
        Check.execute(x, "wait 1");
        x.undo();
        Check.same("kept number", 8, x::denial);
        Check.same("kept detail", 0, x::denialDetail);
        Check.same("kept cause", 9, x::denialCause);
    }
}
