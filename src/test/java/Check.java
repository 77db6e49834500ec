/** Counts checks; a test class calls end() last, which ends the program with 1 if a check failed. */
final class Check {
    private static int good = 0;
    private static int bad = 0;

    private Check() {
    }

    interface Call {
        Object run();
    }

    static void same(String what, Object due, Call call) {
        Object got;
        try {
            got = call.run();
        } catch (RuntimeException e) {
            got = "throws " + e.getClass().getName();
        }
        count(due.equals(got), what + " answered " + got + ", due is " + due);
    }

    static void yes(String what, boolean holds) {
        count(holds, what + " does not hold");
    }

    /** The class is compared exactly, as the machine throws subclasses of the documented ones. */
    static void fails(String what, Class<? extends RuntimeException> due, Call call) {
        Object got;
        try {
            got = call.run();
        } catch (RuntimeException e) {
            got = e.getClass();
        }
        count(got == due, what + " answered " + got + ", due is " + due);
    }

    static void index(String what, Call call) {
        fails(what, IndexOutOfBoundsException.class, call);
    }

    static void argument(String what, Call call) {
        fails(what, IllegalArgumentException.class, call);
    }

    static void noElement(String what, Call call) {
        fails(what, java.util.NoSuchElementException.class, call);
    }

    static void state(String what, Call call) {
        fails(what, IllegalStateException.class, call);
    }

    static void denied(String what, BeamChart chart, int number, int detail, Call call) {
        fails(what, UnsupportedOperationException.class, call);
        same(what + ": denial", number, chart::denial);
        same(what + ": denialDetail", detail, chart::denialDetail);
        noElement(what + ": denialCause", chart::denialCause);
    }

    /** Feeds a text and executes it. */
    static int execute(BeamChart chart, String text) {
        for (int i = 0; i < text.length(); i++) {
            chart.feed(text.charAt(i));
        }
        return chart.execute();
    }

    static String line(BeamChart chart, int length) {
        StringBuilder line = new StringBuilder();
        for (int i = 0; i < length; i++) {
            line.append(chart.lineCharacter(i));
        }
        return line.toString();
    }

    /** All that the calls tell of what changes can change; it makes some 250 calls. */
    static String portrait(BeamChart chart) {
        StringBuilder all = new StringBuilder();
        for (int row = 0; row < 8; row++) {
            for (int column = 0; column < 8; column++) {
                all.append(chart.depth(column, row));
            }
        }
        all.append(" m").append(chart.minute());
        for (int light = 0; light < chart.lightCount(); light++) {
            all.append(" l").append(chart.beam(light)).append(',').append(chart.sightingsOf(light));
            all.append(',').append(chart.reachedCells(light));
            for (int cell = 0; cell < 64; cell++) {
                if (chart.sweeps(light, cell % 8, cell / 8)) {
                    all.append('.').append(cell);
                }
            }
        }
        for (int ship = 0; ship < chart.shipCount(); ship++) {
            all.append(' ').append(line(chart, chart.writeShip(ship)));
        }
        all.append(" s").append(chart.sightings()).append(',').append(chart.sightingsByLights());
        all.append(" w").append(chart.wrecks()).append(" v").append(chart.salvaged());
        return all.toString();
    }

    static int counted() {
        return good + bad;
    }

    private static void count(boolean holds, String complaint) {
        if (holds) {
            good++;
        } else {
            bad++;
            System.out.println(complaint);
        }
    }

    static void end(String name) {
        System.out.println(name + ": " + good + " checks held, " + bad + " failed");
        if (bad != 0 || good == 0) {
            System.exit(1);
        }
    }
}
