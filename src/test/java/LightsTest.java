/** Promises 10 to 24. */
public final class LightsTest {
    private static final int[] WRONG = {-1, 8, Integer.MIN_VALUE, Integer.MAX_VALUE};

    public static void main(String[] args) {
        promise10AddLight();
        promise10Denials();
        promise11SetPhase();
        promise12RemoveLight();
        promises13And14CountAndLightOn();
        promise15Beam();
        promise16SectorOf();
        promise17ReachesByRange();
        promise17ReachesByLand();
        promise18Sweeps();
        promises19And20UntilSwept();
        promises19And20WrongInputs();
        promises21And22Cells();
        promises23And24Fewest();
        Check.end("LightsTest");
    }

    private static void promise10AddLight() {
        BeamChart x = new BeamChart();
        Check.same("first light", 0, () -> x.addLight(0, 0, 1, 8));
        Check.same("second light", 1, () -> x.addLight(7, 7, 9, 24));
        Check.same("a light on land", 5, () -> x.setDepth(3, 3, 0));
        Check.same("third light", 2, () -> x.addLight(3, 3, 5, 16));
        Check.same("no sightings yet", 0, () -> x.sightingsOf(2));
        Check.same("phase 0", 0, () -> x.beam(2));
        for (int wrong : WRONG) {
            Check.index("addLight column " + wrong, () -> x.addLight(wrong, 1, 1, 8));
            Check.index("addLight row " + wrong, () -> x.addLight(1, wrong, 1, 8));
            Check.index("the cell comes first", () -> x.addLight(1, wrong, 0, 0));
        }
        for (int range : new int[] {0, 10, -1, Integer.MIN_VALUE, Integer.MAX_VALUE}) {
            Check.argument("range " + range, () -> x.addLight(1, 1, range, 8));
        }
        for (int period : new int[] {7, 25, 0, -8, Integer.MIN_VALUE, Integer.MAX_VALUE}) {
            Check.argument("period " + period, () -> x.addLight(1, 1, 1, period));
        }
        Check.argument("the range is looked at before the light on the cell", () -> x.addLight(0, 0, 0, 8));
        Check.same("three lights", 3, x::lightCount);
        Check.noElement("no denial so far", x::denial);
    }

    private static void promise10Denials() {
        BeamChart x = new BeamChart();
        for (int light = 0; light < 5; light++) {
            x.addLight(light, 2, 3, 9);
        }
        Check.denied("a light is on the cell", x, 2, 4, () -> x.addLight(4, 2, 1, 8));
        Check.denied("the first light is on the cell", x, 2, 0, () -> x.addLight(0, 2, 1, 8));
        Check.same("sixth light", 5, () -> x.addLight(5, 2, 3, 9));
        Check.denied("limit", x, 1, 6, () -> x.addLight(6, 2, 1, 8));
        Check.denied("the limit comes before the light on the cell", x, 1, 6, () -> x.addLight(5, 2, 1, 8));
        Check.argument("the range comes before the limit", () -> x.addLight(6, 2, 10, 8));
        x.removeLight(0);
        Check.same("a place is free again", 5, () -> x.addLight(6, 2, 1, 8));
        Check.same("its reach is its own", 4, () -> x.reachedCells(5) - 1);
    }

    private static void promise11SetPhase() {
        BeamChart x = new BeamChart();
        x.addLight(0, 0, 1, 8);
        x.addLight(1, 0, 1, 8);
        Check.same("phase before", 0, () -> x.setPhase(1, 7));
        Check.same("beam of the other", 0, () -> x.beam(0));
        Check.same("beam", 7, () -> x.beam(1));
        Check.same("phase before", 7, () -> x.setPhase(1, 3));
        x.pass(1);
        Check.denied("present phase", x, 7, 3, () -> x.setPhase(1, 3));
        Check.denied("present phase 0", x, 7, 0, () -> x.setPhase(0, 0));
        Check.index("light 2", () -> x.setPhase(2, 1));
        Check.index("light -1", () -> x.setPhase(-1, 1));
        Check.index("the light comes first", () -> x.setPhase(2, 8));
        for (int wrong : WRONG) {
            Check.argument("phase " + wrong, () -> x.setPhase(0, wrong));
        }
        Check.same("phase 0 still", 0, () -> x.setPhase(0, 1));
    }

    private static void promise12RemoveLight() {
        BeamChart x = new BeamChart();
        x.addLight(0, 0, 1, 8);
        x.addLight(3, 3, 1, 9);
        x.addLight(5, 5, 1, 10);
        x.addShip(3, 3, 1);
        x.pass(3);
        Check.same("removed without sightings", 0, () -> x.removeLight(0));
        Check.same("the later one moves up", 0, () -> x.lightOn(3, 3));
        Check.same("the last one moves up", 1, () -> x.lightOn(5, 5));
        Check.same("removed with sightings", 3, () -> x.removeLight(0));
        Check.same("one is left", 1, x::lightCount);
        Check.same("which is the last one", 0, () -> x.lightOn(5, 5));
        Check.same("its sightings", 0, () -> x.sightingsOf(0));
        Check.same("sightings stay", 3, x::sightings);
        Check.index("light 1", () -> x.removeLight(1));
        Check.index("light -1", () -> x.removeLight(-1));
        x.removeLight(0);
        Check.index("no light", () -> x.removeLight(0));
        x.addLight(3, 3, 1, 9);
        x.setPhase(0, 5);
        x.pass(1);
        Check.same("one sighting", 1, () -> x.removeLight(0));
        Check.same("a new light", 0, () -> x.addLight(3, 3, 1, 24));
        Check.same("has no sightings", 0, () -> x.sightingsOf(0));
        Check.same("and the phase 0, 4 minutes by 24", 1, () -> x.beam(0));
    }

    private static void promises13And14CountAndLightOn() {
        BeamChart x = new BeamChart();
        Check.noElement("no light on it", () -> x.lightOn(0, 0));
        x.addLight(2, 5, 1, 8);
        x.addLight(5, 2, 1, 8);
        Check.same("two", 2, x::lightCount);
        Check.same("first", 0, () -> x.lightOn(2, 5));
        Check.same("second", 1, () -> x.lightOn(5, 2));
        Check.noElement("no light on another", () -> x.lightOn(2, 2));
        for (int wrong : WRONG) {
            Check.index("lightOn column " + wrong, () -> x.lightOn(wrong, 0));
            Check.index("lightOn row " + wrong, () -> x.lightOn(0, wrong));
        }
        x.removeLight(0);
        Check.same("one", 1, x::lightCount);
        Check.noElement("a removed light is on no cell", () -> x.lightOn(2, 5));
    }

    private static void promise15Beam() {
        BeamChart x = new BeamChart();
        x.addLight(0, 0, 1, 8);
        x.addLight(1, 0, 1, 24);
        x.addLight(2, 0, 1, 11);
        x.setPhase(2, 6);
        int[] eleven = {0, 0, 1, 2, 2, 3, 4, 5, 5, 6, 7};
        for (int minute = 0; minute < 60; minute++) {
            int m = minute;
            Check.same("period 8 at " + m, m % 8, () -> x.beam(0));
            Check.same("period 24 at " + m, m / 3 % 8, () -> x.beam(1));
            Check.same("period 11, phase 6 at " + m, (eleven[m % 11] + 6) % 8, () -> x.beam(2));
            x.pass(1);
        }
        Check.index("beam 3", () -> x.beam(3));
        Check.index("beam -1", () -> x.beam(-1));
    }

    private static void promise16SectorOf() {
        BeamChart x = new BeamChart();
        x.addLight(3, 3, 1, 8);
        // Row 7 is the first line, as north is where the rows increase.
        String[] sectors = {
            "22221111",
            "32221110",
            "33221100",
            "33321000",
            "444*0000",
            "44567777",
            "45566777",
            "55566677",
        };
        for (int line = 0; line < 8; line++) {
            int row = 7 - line;
            for (int column = 0; column < 8; column++) {
                int c = column;
                char sector = sectors[line].charAt(column);
                if (sector != '*') {
                    Check.same("sector of " + c + "," + row, sector - '0', () -> x.sectorOf(0, c, row));
                }
            }
        }
        Check.noElement("the cell of the light", () -> x.sectorOf(0, 3, 3));
        Check.index("light 1", () -> x.sectorOf(1, 0, 0));
        Check.index("light -1", () -> x.sectorOf(-1, 3, 3));
        for (int wrong : WRONG) {
            Check.index("sectorOf column " + wrong, () -> x.sectorOf(0, wrong, 3));
            Check.index("sectorOf row " + wrong, () -> x.sectorOf(0, 3, wrong));
        }
    }

    private static void promise17ReachesByRange() {
        BeamChart x = new BeamChart();
        x.addLight(0, 0, 5, 8);
        x.addLight(7, 7, 1, 8);
        x.addLight(7, 0, 9, 8);
        Check.same("3,4 is 5 away", true, () -> x.reaches(0, 3, 4));
        Check.same("4,3 is 5 away", true, () -> x.reaches(0, 4, 3));
        Check.same("5,0 is 5 away", true, () -> x.reaches(0, 5, 0));
        Check.same("5,1 is further", false, () -> x.reaches(0, 5, 1));
        Check.same("4,4 is further", false, () -> x.reaches(0, 4, 4));
        Check.same("the cell of the light", true, () -> x.reaches(1, 7, 7));
        Check.same("next to it", true, () -> x.reaches(1, 6, 7));
        Check.same("across", false, () -> x.reaches(1, 6, 6));
        Check.same("range 9: 7,5 is 74", true, () -> x.reaches(2, 0, 5));
        Check.same("range 9: 7,6 is 85", false, () -> x.reaches(2, 0, 6));
        Check.index("light 3", () -> x.reaches(3, 0, 0));
        Check.index("light -1", () -> x.reaches(-1, 0, 0));
        for (int wrong : WRONG) {
            Check.index("reaches column " + wrong, () -> x.reaches(0, wrong, 3));
            Check.index("reaches row " + wrong, () -> x.reaches(0, 3, wrong));
        }
    }

    private static void promise17ReachesByLand() {
        BeamChart x = new BeamChart();
        x.addLight(2, 1, 9, 8);
        x.addLight(5, 6, 9, 8);
        // From 2,1 to 5,3 the cells between are 3,2 and 4,2: 2/3 rounds to 1, and 4/3 to 1.
        x.setDepth(3, 2, 0);
        Check.same("land between", false, () -> x.reaches(0, 5, 3));
        Check.same("the land itself", true, () -> x.reaches(0, 3, 2));
        x.setDepth(3, 2, 1);
        x.setDepth(4, 2, 0);
        Check.same("land at the second cell", false, () -> x.reaches(0, 5, 3));
        x.setDepth(4, 2, 5);
        x.setDepth(3, 1, 0);
        x.setDepth(4, 3, 0);
        Check.same("land beside", true, () -> x.reaches(0, 5, 3));
        // From 2,1 to 4,2 a half is rounded up, to 3,2; back from 5,6 to 3,5 too: -1/2 leads to 0.
        x.setDepth(3, 2, 0);
        Check.same("a half leads up", false, () -> x.reaches(0, 4, 2));
        x.setDepth(4, 6, 0);
        Check.same("minus a half leads up as well", false, () -> x.reaches(1, 3, 5));
        x.setDepth(4, 6, 5);
        x.setDepth(4, 5, 0);
        Check.same("and not down", true, () -> x.reaches(1, 3, 5));
        // From 5,6 to 2,4: -2/3 rounds to -1, and -4/3 to -1.
        Check.same("land below", false, () -> x.reaches(1, 2, 4));
        x.setDepth(4, 5, 5);
        x.setDepth(3, 5, 0);
        Check.same("land below at the second cell", false, () -> x.reaches(1, 2, 4));
        x.setDepth(3, 5, 5);
        x.setDepth(2, 4, 0);
        x.setDepth(5, 6, 0);
        Check.same("land at both ends does not matter", true, () -> x.reaches(1, 2, 4));
        x.setDepth(5, 4, 0);
        Check.same("straight down", false, () -> x.reaches(1, 5, 2));
        Check.same("down to the land", true, () -> x.reaches(1, 5, 4));
    }

    private static void promise18Sweeps() {
        BeamChart x = new BeamChart();
        x.addLight(0, 0, 5, 16);
        Check.same("sector 0", true, () -> x.sweeps(0, 4, 3));
        Check.same("sector 0, too far", false, () -> x.sweeps(0, 6, 0));
        Check.same("sector 1 not yet", false, () -> x.sweeps(0, 3, 3));
        Check.same("its own cell", true, () -> x.sweeps(0, 0, 0));
        x.pass(1);
        Check.same("still sector 0", true, () -> x.sweeps(0, 4, 3));
        x.pass(1);
        Check.same("sector 0 no more", false, () -> x.sweeps(0, 4, 3));
        Check.same("sector 1", true, () -> x.sweeps(0, 3, 3));
        Check.same("its own cell still", true, () -> x.sweeps(0, 0, 0));
        x.setDepth(2, 2, 0);
        Check.same("behind land", false, () -> x.sweeps(0, 3, 3));
        Check.index("light 1", () -> x.sweeps(1, 0, 0));
        Check.index("light -1", () -> x.sweeps(-1, 0, 0));
        for (int wrong : WRONG) {
            Check.index("sweeps column " + wrong, () -> x.sweeps(0, wrong, 3));
            Check.index("sweeps row " + wrong, () -> x.sweeps(0, 3, wrong));
        }
    }

    private static void promises19And20UntilSwept() {
        BeamChart x = new BeamChart();
        x.addLight(3, 3, 9, 8);
        x.addLight(4, 4, 9, 11);
        x.addLight(2, 2, 9, 24);
        until(x, 0, 3, 3, 0);
        until(x, 0, 5, 3, 0);
        until(x, 0, 3, 5, 2);
        until(x, 0, 4, 2, 7);
        until(x, 1, 0, 0, 7);
        until(x, 1, 5, 4, 0);
        until(x, 1, 5, 5, 2);
        until(x, 1, 4, 5, 3);
        until(x, 1, 3, 5, 5);
        until(x, 1, 3, 4, 6);
        until(x, 1, 4, 3, 9);
        until(x, 1, 5, 3, 10);
        until(x, 2, 1, 2, 12);
        until(x, 2, 2, 1, 18);
        until(x, 2, 3, 1, 21);
        x.setPhase(2, 3);
        until(x, 2, 3, 2, 15);
        until(x, 2, 2, 3, 21);
        x.pass(16);
        until(x, 0, 5, 3, 0);
        until(x, 0, 3, 5, 2);
        until(x, 2, 3, 2, 0);
        until(x, 2, 2, 3, 5);
        // Minute 16 of period 11: 128/11 is 11, sector 3; sector 0 comes with 176/11, at minute 22.
        until(x, 1, 5, 4, 6);
        until(x, 1, 4, 4, 0);
    }

    private static void until(BeamChart x, int light, int column, int row, int due) {
        String what = light + " on " + column + "," + row + " at minute " + x.minute();
        Check.same("minutesUntilSwept " + what, due, () -> x.minutesUntilSwept(light, column, row));
        Check.same("ByDivision " + what, due, () -> x.minutesUntilSweptByDivision(light, column, row));
    }

    private static void promises19And20WrongInputs() {
        BeamChart x = new BeamChart();
        x.addLight(0, 0, 3, 8);
        x.setDepth(1, 1, 0);
        Check.noElement("too far", () -> x.minutesUntilSwept(0, 4, 0));
        Check.noElement("too far by division", () -> x.minutesUntilSweptByDivision(0, 4, 0));
        Check.noElement("behind land", () -> x.minutesUntilSwept(0, 2, 2));
        Check.noElement("behind land by division", () -> x.minutesUntilSweptByDivision(0, 2, 2));
        for (int light : new int[] {-1, 1, 6, Integer.MAX_VALUE}) {
            Check.index("light " + light, () -> x.minutesUntilSwept(light, 0, 0));
            Check.index("by division, light " + light, () -> x.minutesUntilSweptByDivision(light, 0, 0));
        }
        for (int wrong : WRONG) {
            Check.index("column " + wrong, () -> x.minutesUntilSwept(0, wrong, 0));
            Check.index("row " + wrong, () -> x.minutesUntilSwept(0, 0, wrong));
            Check.index("by division, column " + wrong, () -> x.minutesUntilSweptByDivision(0, wrong, 0));
            Check.index("by division, row " + wrong, () -> x.minutesUntilSweptByDivision(0, 0, wrong));
        }
    }

    private static void promises21And22Cells() {
        BeamChart x = new BeamChart();
        Check.same("nothing is lit", 0, x::litCells);
        x.addLight(3, 3, 1, 8);
        Check.same("range 1", 5, () -> x.reachedCells(0));
        x.addLight(0, 0, 2, 8);
        Check.same("range 2 in a corner", 6, () -> x.reachedCells(1));
        Check.same("together", 11, x::litCells);
        x.addLight(4, 3, 1, 8);
        Check.same("overlapping", 14, x::litCells);
        x.setDepth(1, 0, 0);
        Check.same("land hides one cell", 5, () -> x.reachedCells(1));
        Check.same("of the lit ones too", 13, x::litCells);
        x.addLight(7, 7, 9, 8);
        Check.same("range 9 misses what is far off", 61, () -> x.reachedCells(3));
        x.addLight(0, 7, 1, 8);
        Check.same("in the corner of the last row", 3, () -> x.reachedCells(4));
        Check.index("light 5", () -> x.reachedCells(5));
        Check.index("light -1", () -> x.reachedCells(-1));
    }

    private static void promises23And24Fewest() {
        BeamChart x = new BeamChart();
        fewest(x, 0);
        x.addLight(3, 3, 1, 8);
        fewest(x, 1);
        x.addLight(2, 3, 3, 8);
        fewest(x, 1);
        x.addLight(7, 7, 1, 8);
        fewest(x, 2);
        x.addLight(7, 6, 1, 8);
        fewest(x, 3);
        x.addLight(6, 6, 3, 8);
        fewest(x, 2);
        x.addLight(0, 0, 1, 8);
        fewest(x, 3);
        // The first light reaches the first cell, but can be left out.
        BeamChart y = new BeamChart();
        y.addLight(0, 0, 1, 8);
        y.addLight(1, 1, 3, 8);
        fewest(y, 1);
        y.addLight(7, 7, 1, 8);
        y.addLight(6, 7, 2, 8);
        fewest(y, 2);
        y.addLight(0, 7, 1, 8);
        y.addLight(1, 7, 1, 8);
        fewest(y, 4);
        // The first light can't be left out, but the second one can.
        BeamChart first = new BeamChart();
        first.addLight(1, 1, 3, 8);
        first.addLight(0, 0, 1, 8);
        fewest(first, 1);
        first.addLight(6, 6, 3, 8);
        fewest(first, 2);
        // The last light leaves nothing to the others, and is not counted when it is gone.
        fewest(removedLast(), 2);
        // No light reaches more cells than the first one, but the other two reach them all.
        BeamChart z = new BeamChart();
        for (int column = 0; column < 8; column++) {
            z.setDepth(column, 1, 0);
        }
        z.addLight(3, 0, 2, 8);
        z.addLight(2, 0, 2, 8);
        z.addLight(5, 0, 2, 8);
        fewest(z, 2);
        z.setDepth(4, 0, 0);
        fewest(z, 2);
        z.removeLight(2);
        fewest(z, 2);
    }

    private static BeamChart removedLast() {
        BeamChart x = new BeamChart();
        x.addLight(0, 0, 1, 8);
        x.addLight(5, 5, 1, 8);
        x.addLight(2, 2, 9, 8);
        fewest(x, 1);
        x.removeLight(2);
        return x;
    }

    private static void fewest(BeamChart x, int due) {
        Check.same("fewestLights", due, x::fewestLights);
        Check.same("fewestLightsBySearch", due, x::fewestLightsBySearch);
    }
}
