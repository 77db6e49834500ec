/** Promises 41 to 48. */
public final class LogTest {
    public static void main(String[] args) {
        promise41Minute();
        promises42To44Sightings();
        promise45Wrecks();
        promise46Salvaged();
        promise47MeanDepth();
        promise48SeenShare();
        Check.end("LogTest");
    }

    private static void promise41Minute() {
        BeamChart x = new BeamChart();
        Check.same("at first", 0, x::minute);
        x.pass(1);
        Check.same("after one", 1, x::minute);
        x.pass(48);
        Check.same("after 49", 49, x::minute);
        Check.same("it is no remainder", 97, () -> {
            x.pass(48);
            return x.minute();
        });
    }

    private static void promises42To44Sightings() {
        BeamChart x = new BeamChart();
        Check.index("sightingsOf without lights", () -> x.sightingsOf(0));
        x.addLight(0, 0, 1, 8);
        x.addLight(7, 7, 1, 8);
        x.addShip(0, 0, 1);
        x.addShip(7, 7, 1);
        x.addShip(7, 7, 1);
        x.pass(3);
        sums(x, 9, 3, 6);
        Check.same("removed", 6, () -> x.removeLight(1));
        sums(x, 9, 3);
        x.addLight(7, 7, 1, 9);
        x.pass(2);
        sums(x, 15, 5, 4);
        Check.same("removed", 5, () -> x.removeLight(0));
        sums(x, 15, 4);
        Check.same("removed", 4, () -> x.removeLight(0));
        sums(x, 15);
        x.pass(5);
        sums(x, 15);
        for (int light : new int[] {-1, 0, 6, Integer.MIN_VALUE, Integer.MAX_VALUE}) {
            Check.index("sightingsOf " + light, () -> x.sightingsOf(light));
        }
    }

    private static void sums(BeamChart x, int sum, int... each) {
        Check.same("sightings", sum, x::sightings);
        Check.same("sightingsByLights", sum, x::sightingsByLights);
        for (int light = 0; light < each.length; light++) {
            int l = light;
            Check.same("sightingsOf " + l, each[l], () -> x.sightingsOf(l));
        }
    }

    private static void promise45Wrecks() {
        BeamChart x = new BeamChart();
        x.addShip(0, 0, 5);
        x.addShip(0, 0, 4);
        x.addShip(1, 0, 5);
        x.setDepth(0, 0, 4);
        Check.same("none yet", 0, x::wrecks);
        x.pass(1);
        Check.same("the one with draught 5", 1, x::wrecks);
        x.setDepth(0, 0, 1);
        x.setDepth(1, 0, 0);
        x.pass(1);
        Check.same("the others too", 3, x::wrecks);
        x.salvage(0);
        x.pass(10);
        Check.same("each one once", 3, x::wrecks);
    }

    private static void promise46Salvaged() {
        BeamChart x = new BeamChart();
        Check.same("nothing", 0, x::salvaged);
        x.setDepth(3, 3, 9);
        x.addShip(3, 3, 9);
        x.addShip(3, 3, 1);
        x.setDepth(3, 3, 0);
        x.pass(1);
        Check.same("wrecked is not salvaged", 0, x::salvaged);
        x.salvage(0);
        Check.same("draught 9", 90, x::salvaged);
        x.salvage(0);
        Check.same("draught 1 too", 100, x::salvaged);
    }

    private static void promise47MeanDepth() {
        BeamChart x = new BeamChart();
        Check.same("at first", 5.0, x::meanDepth);
        x.setDepth(7, 7, 6);
        Check.same("321 by 64", 5.015625, x::meanDepth);
        x.setDepth(0, 0, 0);
        Check.same("316 by 64", 4.9375, x::meanDepth);
        x.pass(4);
        Check.same("the tide does not count", 4.9375, x::meanDepth);
    }

    private static void promise48SeenShare() {
        BeamChart x = new BeamChart();
        Check.fails("no ships", ArithmeticException.class, x::seenShare);
        x.addShip(0, 0, 5);
        Check.same("0 of 1", 0f, x::seenShare);
        x.addLight(0, 0, 1, 8);
        Check.same("1 of 1", 1f, x::seenShare);
        x.addLight(1, 0, 1, 8);
        x.setPhase(1, 4);
        Check.same("two lights see one ship", 2, () -> x.seenBy(0));
        Check.same("it counts once", 1f, x::seenShare);
        x.addShip(5, 5, 1);
        x.addShip(6, 5, 1);
        Check.same("1 of 3", 1f / 3f, x::seenShare);
        x.addShip(1, 0, 1);
        x.addShip(1, 0, 1);
        x.addShip(7, 7, 1);
        Check.same("3 of 6", 0.5f, x::seenShare);
        x.setDepth(0, 0, 0);
        x.pass(8);
        Check.same("the first is wrecked", true, () -> x.isWrecked(0));
        Check.same("and still seen", 0.5f, x::seenShare);
        x.salvage(0);
        Check.same("2 of 5", 0.4f, x::seenShare);
    }
}
