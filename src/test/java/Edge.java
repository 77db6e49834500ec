import java.lang.reflect.InvocationTargetException;
import java.lang.reflect.Method;
import java.lang.reflect.Modifier;
import java.util.Arrays;
import java.util.Comparator;

/** What the edge tests share: wrong cells and indices, and a runner that leaves no test method out. */
final class Edge {
    /** The odd ones among them would be a cell of the chart, if row * 8 + column alone were looked at. */
    private static final int[][] WRONG_CELLS = {{-1, 0}, {0, -1}, {8, 0}, {0, 8}, {8, 7}, {7, 8}, {-1, 7}, {7, -1},
        {-1, 1}, {8, -1}, {-8, 1}, {64, -1}, {63, 0}, {-1, -1}, {8, 8}, {0, 1 << 29}, {Integer.MIN_VALUE, 1 << 28},
        {Integer.MIN_VALUE, 0}, {0, Integer.MIN_VALUE}, {Integer.MAX_VALUE, 0}, {0, Integer.MAX_VALUE}};
    private static final int[][] CORNERS = {{0, 0}, {7, 0}, {0, 7}, {7, 7}};
    private static final int MOST = 6;

    private Edge() {
    }

    interface CellCall {
        Object run(BeamChart x, int column, int row);
    }

    interface IndexCall {
        Object run(BeamChart x, int index);
    }

    /** Runs the tests of a class: all of its static methods whose names begin so. */
    static void runAll(Class<?> tests, String beginning) throws Exception {
        Method[] methods = tests.getDeclaredMethods();
        Arrays.sort(methods, Comparator.comparing(Method::getName));
        for (Method method : methods) {
            if (method.getName().startsWith(beginning) && Modifier.isStatic(method.getModifiers())) {
                method.setAccessible(true);
                int before = Check.counted();
                run(method);
                Check.yes(method.getName() + " checks something", Check.counted() > before);
            }
        }
        Check.end(tests.getName());
    }

    private static void run(Method method) throws IllegalAccessException {
        try {
            method.invoke(null);
        } catch (InvocationTargetException e) {
            Check.yes(method.getName() + " ends with " + e.getCause(), false);
        }
    }

    /** A light and a ship with a goal are on the chart, so that nothing but the cell is wrong. */
    static void noSuchCell(String what, CellCall call) {
        BeamChart x = new BeamChart();
        x.addLight(3, 3, 9, 8);
        x.addShip(4, 4, 5);
        x.steer(0, 5, 5);
        for (int[] cell : WRONG_CELLS) {
            Check.index(what + " at " + cell[0] + "," + cell[1], () -> call.run(x, cell[0], cell[1]));
        }
        for (int[] cell : CORNERS) {
            exists(what + " at " + cell[0] + "," + cell[1], () -> call.run(x, cell[0], cell[1]));
        }
    }

    static void noSuchLight(String what, IndexCall call) {
        for (int count = 0; count <= MOST; count++) {
            Edge.indices(what, count, call, true);
        }
    }

    static void noSuchShip(String what, IndexCall call) {
        for (int count = 0; count <= MOST; count++) {
            Edge.indices(what, count, call, false);
        }
    }

    private static void indices(String what, int count, IndexCall call, boolean ofLights) {
        String among = " of " + count;
        for (int wrong : new int[] {-1, count, count + 1, MOST, MOST + 1, Integer.MIN_VALUE, Integer.MAX_VALUE}) {
            BeamChart x = ofLights ? lights(count) : ships(count);
            Check.index(what + " " + wrong + among, () -> call.run(x, wrong));
        }
        if (count > 0) {
            BeamChart x = ofLights ? lights(count) : ships(count);
            exists(what + " " + (count - 1) + among, () -> call.run(x, count - 1));
            BeamChart y = ofLights ? lights(count) : ships(count);
            exists(what + " 0" + among, () -> call.run(y, 0));
        }
    }

    private static void exists(String what, Check.Call call) {
        boolean found = true;
        try {
            call.run();
        } catch (IndexOutOfBoundsException e) {
            found = false;
        } catch (RuntimeException e) {
            // Other tests look at these answers.
        }
        Check.yes(what + " exists", found);
    }

    /** A chart with so many lights, in the row 0. */
    static BeamChart lights(int count) {
        BeamChart x = new BeamChart();
        for (int light = 0; light < count; light++) {
            x.addLight(light, 0, 9, 8);
        }
        return x;
    }

    /** A chart with so many ships, in the row 1. */
    static BeamChart ships(int count) {
        BeamChart x = new BeamChart();
        for (int ship = 0; ship < count; ship++) {
            x.addShip(ship, 1, 5);
        }
        return x;
    }

    /** Feeds a text without executing it. */
    static void feed(BeamChart x, String text) {
        for (int i = 0; i < text.length(); i++) {
            x.feed(text.charAt(i));
        }
    }

    static String row(BeamChart x, int row) {
        return Check.line(x, x.writeRow(row));
    }

    static String ship(BeamChart x, int ship) {
        return Check.line(x, x.writeShip(ship));
    }

    static void failedCommand(String text, BeamChart x, int command, int cause) {
        Check.fails(text, UnsupportedOperationException.class, () -> Check.execute(x, text));
        Check.same(text + ": denial", 8, x::denial);
        Check.same(text + ": denialDetail", command, x::denialDetail);
        Check.same(text + ": denialCause", cause, x::denialCause);
    }

    static void fault(String text, int due) {
        BeamChart x = new BeamChart();
        Check.argument("text " + text, () -> Check.execute(x, text));
        Check.same("fault position of " + text, due, x::faultPosition);
    }
}
