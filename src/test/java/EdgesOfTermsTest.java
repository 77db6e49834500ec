/**
 * Each sentence ahead of the promises that names a boundary case has a test of its own; the sentence, or the part of
 * it that matters, stands above the test.
 */
public final class EdgesOfTermsTest {
    public static void main(String[] args) throws Exception {
        Edge.runAll(EdgesOfTermsTest.class, "term");
    }

    // ---- the object

    // An object is used for at most 512 calls after it has been made.
    private static void termFiveHundredTwelveCalls() {
        BeamChart x = new BeamChart();
        x.addLight(0, 0, 9, 24);
        x.addShip(0, 0, 5);
        x.addShip(7, 7, 5);
        for (int call = 4; call <= 506; call++) {
            Check.same("call " + call, 48, () -> x.pass(48));
        }
        Check.same("call 507: minute", 503 * 48, x::minute);
        Check.same("call 508: sightings", 503 * 48, x::sightings);
        Check.same("call 509: dark minutes", 503 * 48, () -> x.darkMinutes(1));
        Check.same("call 510: beam", 0, () -> x.beam(0));
        Check.same("call 511: tide", 0, x::tide);
        Check.same("call 512: undoCount", 8, x::undoCount);
    }

    private static void termFiveHundredTwelveCallsOfTexts() {
        BeamChart x = new BeamChart();
        for (int text = 0; text < 9; text++) {
            // 55 signs and the execute are 56 calls, 504 in all.
            Check.same("text " + text, 8, () -> Check.execute(x, "wait 1;".repeat(7) + "wait 1"));
        }
        Check.same("call 505: minute", 72, x::minute);
        Check.same("call 506: undo", 7, x::undo);
        Check.same("call 507: minute", 64, x::minute);
        Edge.feed(x, "wait");
        Check.same("call 512: feed", 5, () -> x.feed(' '));
    }

    // ---- chart

    // The chart has 8 columns and 8 rows, both numbered from 0 to 7.
    private static void termEightColumnsAndRows() {
        BeamChart x = new BeamChart();
        for (int column = -2; column < 10; column++) {
            for (int row = -2; row < 10; row++) {
                int c = column;
                int r = row;
                if (c >= 0 && c < 8 && r >= 0 && r < 8) {
                    Check.same("depth of " + c + "," + r, 5, () -> x.depth(c, r));
                } else {
                    Check.index("depth of " + c + "," + r, () -> x.depth(c, r));
                }
            }
        }
    }

    // Each cell has a depth from 0 to 9, initially 5.
    private static void termDepthFromZeroToNine() {
        BeamChart x = new BeamChart();
        int before = 5;
        for (int depth : new int[] {0, 1, 2, 3, 4, 5, 6, 7, 8, 9, 0, 9}) {
            int due = before;
            Check.same("depth before " + depth, due, () -> x.setDepth(7, 7, depth));
            Check.same("depth " + depth, depth, () -> x.depth(7, 7));
            before = depth;
        }
    }

    // A cell with the depth 0 is land.
    private static void termOnlyDepthZeroIsLand() {
        BeamChart x = new BeamChart();
        x.addLight(0, 0, 9, 8);
        x.setDepth(1, 0, 1);
        Check.same("sight over the depth 1", true, () -> x.reaches(0, 2, 0));
        Check.same("a ship on the depth 1", 0, () -> x.addShip(1, 0, 1));
        x.setDepth(1, 0, 0);
        Check.same("sight over land", false, () -> x.reaches(0, 2, 0));
        x.pass(4);
        Check.denied("a ship on land", x, 3, 0, () -> x.addShip(1, 0, 1));
    }

    // Two cells are neighbours if they are in the same column and in adjacent rows, or the other way round.
    private static void termNoNeighboursAcross() {
        BeamChart x = new BeamChart();
        x.addShip(3, 3, 1);
        Check.same("a way across", 2, () -> x.wayLength(0, 4, 4));
        x.setDepth(3, 4, 0);
        x.setDepth(4, 3, 0);
        x.setDepth(3, 2, 0);
        x.setDepth(2, 3, 0);
        for (int[] at : new int[][] {{4, 4}, {2, 4}, {4, 2}, {2, 2}}) {
            Check.noElement("way across", () -> x.wayLength(0, at[0], at[1]));
            Check.noElement("way across by rounds", () -> x.wayLengthByRounds(0, at[0], at[1]));
            Check.same("clearance across", 0, () -> x.clearance(3, 3, at[0], at[1]));
            Check.same("flooding across", 0, () -> x.clearanceByFlooding(3, 3, at[0], at[1]));
        }
    }

    private static void termNoNeighboursRoundTheEdge() {
        BeamChart x = new BeamChart();
        x.addShip(7, 3, 5);
        Check.same("from the last column to the first one of the next row", 8, () -> x.wayLength(0, 0, 4));
        Check.same("the same by rounds", 8, () -> x.wayLengthByRounds(0, 0, 4));
        Check.same("to the first one of the same row", 7, () -> x.wayLength(0, 0, 3));
        x.addShip(3, 7, 5);
        Check.same("from the last row to the first one", 7, () -> x.wayLength(1, 3, 0));
        Check.same("the same by rounds", 7, () -> x.wayLengthByRounds(1, 3, 0));
    }

    private static void termNoUnionRoundTheEdge() {
        BeamChart x = new BeamChart();
        BeamChart y = new BeamChart();
        for (int place = 0; place < 8; place++) {
            x.setDepth(4, place, 0);
            y.setDepth(place, 4, 0);
        }
        for (int place = 0; place < 8; place++) {
            int p = place;
            Check.same("west and east of the land", 0, () -> x.clearance(7, p, 0, 7 - p));
            Check.same("the same by flooding", 0, () -> x.clearanceByFlooding(7, p, 0, 7 - p));
            Check.same("north and south of the land", 0, () -> y.clearance(p, 7, 7 - p, 0));
            Check.same("the same by flooding", 0, () -> y.clearanceByFlooding(p, 7, 7 - p, 0));
        }
    }

    // ---- tide

    // It is 0 for the remainders 0, 1, 10 and 11, 1 for 2, 3, 8 and 9, and 2 for 4 to 7.
    private static void termTideTurnsAtEachBound() {
        int[][] minutesAndTides = {{1, 0}, {2, 1}, {3, 1}, {4, 2}, {7, 2}, {8, 1}, {9, 1}, {10, 0}, {11, 0}};
        for (int[] due : minutesAndTides) {
            BeamChart x = new BeamChart();
            x.pass(due[0]);
            Check.same("tide at minute " + due[0], due[1], x::tide);
        }
    }

    // The tide depends on the remainder of the minute by 12.
    private static void termTideBeginsAgainAfterTwelve() {
        BeamChart x = new BeamChart();
        x.pass(12);
        int[] tides = {0, 0, 1, 1, 2, 2, 2, 2, 1, 1, 0, 0, 0, 0, 1};
        for (int due : tides) {
            Check.same("tide at minute " + x.minute(), due, x::tide);
            x.pass(1);
        }
        x.pass(48);
        Check.same("tide at minute 75, remainder 3", 1, x::tide);
        x.pass(1);
        Check.same("tide at minute 76, remainder 4", 2, x::tide);
    }

    // The water of a cell is its depth plus the tide.
    private static void termMostAndLeastWater() {
        BeamChart x = new BeamChart();
        x.setDepth(0, 0, 9);
        x.setDepth(7, 7, 1);
        Check.same("least water", 1, () -> x.water(7, 7));
        x.pass(4);
        Check.same("most water", 11, () -> x.water(0, 0));
    }

    // The water of land is 0.
    private static void termWaterOfLand() {
        BeamChart x = new BeamChart();
        x.setDepth(7, 0, 0);
        for (int minute = 0; minute <= 12; minute++) {
            Check.same("water of land at minute " + minute, 0, () -> x.water(7, 0));
            x.pass(1);
        }
    }

    // ---- ships

    // At most 6 ships are on the chart.
    private static void termSixShips() {
        BeamChart x = Edge.ships(5);
        Check.same("the sixth ship", 5, () -> x.addShip(5, 1, 5));
        Check.denied("the seventh ship", x, 1, 6, () -> x.addShip(6, 1, 5));
        Check.same("six ships", 6, x::shipCount);
    }

    // When a ship is removed, the indices of the later ones decrease by 1.
    private static void termIndicesOfLaterShips() {
        for (int removed = 0; removed < 6; removed++) {
            BeamChart x = Edge.ships(6);
            x.setDepth(removed, 1, 1);
            x.pass(1);
            x.salvage(removed);
            Check.same("five are left", 5, x::shipCount);
            for (int ship = 0; ship < 5; ship++) {
                int s = ship;
                int due = s < removed ? s : s + 1;
                Check.same("ship " + s + " without " + removed, due, () -> x.columnOf(s));
            }
            Check.same("a new ship comes last", 5, () -> x.addShip(7, 7, 1));
            Check.same("the one before it stays", removed == 5 ? 4 : 5, () -> x.columnOf(4));
        }
    }

    // A ship has a draught from 1 to 9.
    private static void termDraughtFromOneToNine() {
        BeamChart x = new BeamChart();
        x.setDepth(2, 2, 9);
        Check.argument("draught 0", () -> x.addShip(2, 2, 0));
        Check.same("draught 1", 0, () -> x.addShip(2, 2, 1));
        Check.same("draught 9", 1, () -> x.addShip(2, 2, 9));
        Check.argument("draught 10", () -> x.addShip(2, 2, 10));
        Check.same("the first one", "22d1~0", () -> Edge.ship(x, 0));
        Check.same("the second one", "22d9~0", () -> Edge.ship(x, 1));
    }

    // Several ships can be on the same cell.
    private static void termAllShipsOnOneCell() {
        BeamChart x = new BeamChart();
        for (int ship = 0; ship < 6; ship++) {
            int due = ship;
            Check.same("ship " + ship, due, () -> x.addShip(3, 3, 5));
        }
        x.steer(0, 4, 3);
        x.pass(1);
        x.steer(0, 3, 3);
        x.pass(1);
        Check.same("a ship comes back among the others", "33d5~2", () -> Edge.ship(x, 0));
    }

    // The way from a cell to itself has the length 0.
    private static void termWayToItself() {
        BeamChart x = new BeamChart();
        x.addShip(0, 7, 5);
        Check.same("length", 0, () -> x.wayLength(0, 0, 7));
        Check.same("length by rounds", 0, () -> x.wayLengthByRounds(0, 0, 7));
        Check.same("steered", 0, () -> x.steer(0, 0, 7));
    }

    // Each of which has at least as much water as the draught of the ship.
    private static void termJustEnoughWaterForAWay() {
        BeamChart x = new BeamChart();
        x.addShip(0, 0, 5);
        x.setDepth(0, 1, 0);
        Check.same("as much water", 1, () -> x.wayLength(0, 1, 0));
        Check.same("as much water, by rounds", 1, () -> x.wayLengthByRounds(0, 1, 0));
        x.setDepth(1, 0, 4);
        Check.noElement("one less", () -> x.wayLength(0, 1, 0));
        Check.noElement("one less, by rounds", () -> x.wayLengthByRounds(0, 1, 0));
        x.pass(2);
        Check.same("the tide makes it enough", 1, () -> x.wayLength(0, 1, 0));
        Check.same("the tide makes it enough, by rounds", 1, () -> x.wayLengthByRounds(0, 1, 0));
        x.setDepth(1, 0, 0);
        Check.noElement("land is no way", () -> x.wayLength(0, 1, 0));
        Check.noElement("land is no way, by rounds", () -> x.wayLengthByRounds(0, 1, 0));
    }

    // The water of land is 0, also for a ship with the least draught at the high tide.
    private static void termNoWayOverLandInTheFlood() {
        BeamChart x = new BeamChart();
        x.addShip(0, 0, 1);
        x.setDepth(1, 0, 0);
        x.setDepth(0, 1, 0);
        x.pass(4);
        Check.noElement("land", () -> x.wayLength(0, 1, 0));
        Check.noElement("land, by rounds", () -> x.wayLengthByRounds(0, 1, 0));
        Check.denied("land", x, 4, 0, () -> x.steer(0, 1, 0));
        x.setDepth(1, 0, 1);
        Check.same("the least depth", 1, () -> x.wayLength(0, 1, 0));
        Check.same("the least depth, by rounds", 1, () -> x.wayLengthByRounds(0, 1, 0));
        Check.same("over the least depth", 3, () -> x.steer(0, 2, 1));
        x.pass(7);
        x.steer(0, 0, 0);
        x.pass(3);
        Check.same("back in the ebb", 0, () -> x.columnOf(0));
    }

    // The water of the cell where the way begins does not matter.
    private static void termWayBeginsAnywhere() {
        BeamChart x = new BeamChart();
        x.addShip(3, 3, 5);
        for (int depth : new int[] {4, 1, 0}) {
            x.setDepth(3, 3, depth);
            Check.same("away from the depth " + depth, 1, () -> x.wayLength(0, 3, 4));
            Check.same("away by rounds", 1, () -> x.wayLengthByRounds(0, 3, 4));
            Check.same("to itself", 0, () -> x.wayLength(0, 3, 3));
            Check.same("to itself by rounds", 0, () -> x.wayLengthByRounds(0, 3, 3));
            Check.same("steered", 1, () -> x.steer(0, 3, 4));
        }
    }

    // ---- lights

    // At most 6 lights are on the chart.
    private static void termSixLights() {
        BeamChart x = Edge.lights(5);
        Check.same("the sixth light", 5, () -> x.addLight(5, 0, 1, 8));
        Check.denied("the seventh light", x, 1, 6, () -> x.addLight(6, 0, 1, 8));
        Check.same("six lights", 6, x::lightCount);
    }

    // Indexed from 0 like ships.
    private static void termIndicesOfLaterLights() {
        for (int each = 0; each < 6; each++) {
            int removed = each;
            BeamChart x = Edge.lights(6);
            x.removeLight(removed);
            Check.same("five are left", 5, x::lightCount);
            for (int light = 0; light < 5; light++) {
                int l = light;
                int column = l < removed ? l : l + 1;
                Check.same("light " + l + " without " + removed, l, () -> x.lightOn(column, 0));
            }
            Check.same("a new light comes last", 5, () -> x.addLight(7, 7, 1, 8));
            Check.same("the one before it stays", 4, () -> x.lightOn(removed == 5 ? 4 : 5, 0));
        }
    }

    // No two are on the same cell.
    private static void termNoTwoLightsOnACell() {
        BeamChart x = new BeamChart();
        x.addLight(7, 0, 1, 8);
        x.addLight(0, 7, 1, 8);
        Check.denied("on the first", x, 2, 0, () -> x.addLight(7, 0, 9, 24));
        Check.denied("on the second", x, 2, 1, () -> x.addLight(0, 7, 9, 24));
        x.removeLight(0);
        Check.denied("on the second, which is the first now", x, 2, 0, () -> x.addLight(0, 7, 9, 24));
        Check.same("where no light is any more", 1, () -> x.addLight(7, 0, 9, 24));
    }

    // A light has a range from 1 to 9.
    private static void termRangeFromOneToNine() {
        BeamChart x = new BeamChart();
        Check.argument("range 0", () -> x.addLight(0, 0, 0, 8));
        Check.same("range 1", 0, () -> x.addLight(0, 0, 1, 8));
        Check.same("range 9", 1, () -> x.addLight(7, 7, 9, 8));
        Check.argument("range 10", () -> x.addLight(3, 3, 10, 8));
        Check.same("range 1 is the cell and two more", 3, () -> x.reachedCells(0));
        Check.same("range 9 is all but the corner", 61, () -> x.reachedCells(1));
    }

    // A period from 8 to 24.
    private static void termPeriodFromEightToTwentyFour() {
        BeamChart x = new BeamChart();
        Check.argument("period 7", () -> x.addLight(0, 0, 1, 7));
        Check.same("period 8", 0, () -> x.addLight(0, 0, 1, 8));
        Check.same("period 24", 1, () -> x.addLight(7, 7, 1, 24));
        Check.argument("period 25", () -> x.addLight(3, 3, 1, 25));
        x.pass(3);
        Check.same("period 8 after 3 minutes", 3, () -> x.beam(0));
        Check.same("period 24 after 3 minutes", 1, () -> x.beam(1));
    }

    // A phase from 0 to 7, initially 0.
    private static void termPhaseFromZeroToSeven() {
        BeamChart x = new BeamChart();
        x.addLight(0, 0, 1, 8);
        Check.denied("the phase 0 at first", x, 7, 0, () -> x.setPhase(0, 0));
        Check.argument("phase -1", () -> x.setPhase(0, -1));
        Check.argument("phase 8", () -> x.setPhase(0, 8));
        Check.same("phase 7", 0, () -> x.setPhase(0, 7));
        Check.same("phase 0", 7, () -> x.setPhase(0, 0));
    }

    // The phase plus 8 times the minute divided by the period, rounded down.
    private static void termBeamIsRoundedDown() {
        BeamChart x = new BeamChart();
        x.addLight(0, 0, 1, 9);
        x.addLight(1, 0, 1, 24);
        x.addLight(2, 0, 1, 23);
        x.pass(1);
        Check.same("8/9", 0, () -> x.beam(0));
        x.pass(1);
        Check.same("16/9", 1, () -> x.beam(0));
        Check.same("16/24", 0, () -> x.beam(1));
        Check.same("16/23", 0, () -> x.beam(2));
        x.pass(1);
        Check.same("24/24", 1, () -> x.beam(1));
        Check.same("24/23", 1, () -> x.beam(2));
        x.pass(2);
        Check.same("40/9", 4, () -> x.beam(0));
        Check.same("40/24", 1, () -> x.beam(1));
    }

    // Modulo 8.
    private static void termBeamBeginsAgainAfterSeven() {
        BeamChart x = new BeamChart();
        x.addLight(0, 0, 1, 8);
        x.addLight(1, 0, 1, 24);
        x.setPhase(1, 7);
        x.pass(7);
        Check.same("56/8", 7, () -> x.beam(0));
        Check.same("7 + 56/24", 1, () -> x.beam(1));
        x.pass(1);
        Check.same("64/8", 0, () -> x.beam(0));
        x.pass(15);
        Check.same("7 + 184/24", 6, () -> x.beam(1));
        x.pass(1);
        Check.same("7 + 192/24", 7, () -> x.beam(1));
        x.pass(3);
        Check.same("7 + 216/24", 0, () -> x.beam(1));
    }

    // ---- sectors

    // The sectors 0 to 3: what is at least 0, at least dx, at least 0 the other way and at least dy.
    private static void termSectorsBegin() {
        sector(1, 0, 0);
        sector(3, 0, 0);
        sector(1, 1, 1);
        sector(3, 3, 1);
        sector(0, 1, 2);
        sector(0, 3, 2);
        sector(-1, 1, 3);
        sector(-3, 3, 3);
    }

    // Less than dx, or less than dy.
    private static void termSectorsEnd() {
        sector(2, 1, 0);
        sector(4, 3, 0);
        sector(1, 2, 1);
        sector(1, 4, 1);
        sector(-1, 2, 2);
        sector(-2, 3, 2);
        sector(-2, 1, 3);
        sector(-3, 1, 3);
    }

    // In the sectors 4 to 7 if the cell with -dx and -dy would be in the sectors 0 to 3.
    private static void termSectorsBelow() {
        sector(-1, 0, 4);
        sector(-3, -2, 4);
        sector(-1, -1, 5);
        sector(-2, -3, 5);
        sector(0, -1, 6);
        sector(2, -3, 6);
        sector(1, -1, 7);
        sector(4, -1, 7);
    }

    private static void sector(int dx, int dy, int due) {
        BeamChart x = new BeamChart();
        x.addLight(3, 3, 1, 8);
        Check.same("sector of " + dx + "," + dy, due, () -> x.sectorOf(0, 3 + dx, 3 + dy));
        // The beam tells the same: it points there after so many minutes.
        BeamChart y = new BeamChart();
        y.addLight(3, 3, 9, 8);
        Check.same("minutes to " + dx + "," + dy, due, () -> y.minutesUntilSwept(0, 3 + dx, 3 + dy));
    }

    // Not both 0.
    private static void termNoSectorOfTheLightsCell() {
        BeamChart x = new BeamChart();
        x.addLight(7, 7, 1, 8);
        Check.noElement("its own cell", () -> x.sectorOf(0, 7, 7));
    }

    // ---- sight

    // If dx times dx plus dy times dy is at most its range times its range.
    private static void termJustWithinTheRange() {
        BeamChart x = new BeamChart();
        x.addLight(0, 0, 5, 8);
        Check.same("25 of 25", true, () -> x.reaches(0, 3, 4));
        Check.same("25 of 25", true, () -> x.reaches(0, 0, 5));
        Check.same("26 of 25", false, () -> x.reaches(0, 1, 5));
        x.addLight(7, 7, 1, 8);
        Check.same("1 of 1", true, () -> x.reaches(1, 7, 6));
        Check.same("2 of 1", false, () -> x.reaches(1, 6, 6));
        Check.same("4 of 1", false, () -> x.reaches(1, 5, 7));
        x.addLight(0, 7, 7, 8);
        Check.same("49 of 49", true, () -> x.reaches(2, 7, 7));
        Check.same("50 of 49", false, () -> x.reaches(2, 7, 6));
        x.addLight(7, 0, 9, 8);
        Check.same("74 of 81", true, () -> x.reaches(3, 0, 5));
        Check.same("85 of 81", false, () -> x.reaches(3, 0, 6));
        Check.same("98 of 81", false, () -> x.reaches(3, 0, 7));
    }

    // For each k from 1 to n minus 1: with n = 1 there is no cell between.
    private static void termNothingBetweenNextCells() {
        BeamChart x = new BeamChart();
        x.addLight(3, 3, 2, 8);
        for (int column = 2; column <= 4; column++) {
            for (int row = 2; row <= 4; row++) {
                x.setDepth(column, row, 0);
            }
        }
        for (int column = 2; column <= 4; column++) {
            for (int row = 2; row <= 4; row++) {
                int c = column;
                int r = row;
                Check.same("land at " + c + "," + r, true, () -> x.reaches(0, c, r));
            }
        }
        for (int[] at : new int[][] {{1, 3}, {5, 3}, {3, 1}, {3, 5}}) {
            Check.same("behind the land", false, () -> x.reaches(0, at[0], at[1]));
        }
        Check.same("nine cells", 9, () -> x.reachedCells(0));
    }

    // From 1 to n minus 1: the first and the last cell between hide, both ends do not.
    private static void termFirstAndLastCellBetween() {
        for (int land = 0; land <= 6; land++) {
            BeamChart x = new BeamChart();
            x.addLight(0, 4, 9, 8);
            x.setDepth(land, 4, 0);
            boolean due = land == 0 || land == 6;
            Check.same("land in the column " + land, due, () -> x.reaches(0, 6, 4));
            BeamChart y = new BeamChart();
            y.addLight(6, 6, 9, 8);
            y.setDepth(land, land, 0);
            Check.same("land across in the column " + land, due, () -> y.reaches(0, 0, 0));
        }
    }

    // By (2 times k times dx plus n) divided by (2 times n), rounded down.
    private static void termHalfWayCells() {
        // dx, dy, then the cell between for k = 1, of n = 2: a half leads up, minus a half leads to 0.
        int[][] waysAndCells = {{2, 1, 1, 1}, {1, 2, 1, 1}, {-2, 1, -1, 1}, {-1, 2, 0, 1},
            {2, -1, 1, 0}, {1, -2, 1, -1}, {-2, -1, -1, 0}, {-1, -2, 0, -1}};
        for (int[] way : waysAndCells) {
            onlyBetween(way[0], way[1], way[2], way[3]);
        }
    }

    // Rounding down leads to the next lower integer, also below 0.
    private static void termCellsBelowZero() {
        // dx, dy, then the cells between; of n = 3: -1/3 leads to 0, and -2/3 to -1; of n = 4: -2/4 leads to 0.
        onlyBetween(-3, -1, -1, 0, -2, -1);
        onlyBetween(-3, -2, -1, -1, -2, -1);
        onlyBetween(-1, -3, 0, -1, -1, -2);
        onlyBetween(3, -2, 1, -1, 2, -1);
        onlyBetween(3, -1, 1, 0, 2, -1);
        onlyBetween(-4, -2, -1, 0, -2, -1, -3, -1);
        onlyBetween(-4, -1, -1, 0, -2, 0, -3, -1);
        onlyBetween(-4, -3, -1, -1, -2, -1, -3, -2);
        onlyBetween(-4, 2, -1, 1, -2, 1, -3, 2);
        onlyBetween(3, 1, 1, 0, 2, 1);
        onlyBetween(4, 2, 1, 1, 2, 1, 3, 2);
        onlyBetween(4, 3, 1, 1, 2, 2, 3, 2);
    }

    /** Land on any one of the cells between hides the cell at dx and dy, and land on all others does not. */
    private static void onlyBetween(int dx, int dy, int... between) {
        String what = "sight to " + dx + "," + dy;
        BeamChart x = new BeamChart();
        int column = dx < 0 ? 5 : 2;
        int row = dy < 0 ? 5 : 2;
        x.addLight(column, row, 9, 8);
        for (int cell = 0; cell < 64; cell++) {
            x.setDepth(cell % 8, cell / 8, 0);
        }
        for (int i = 0; i < between.length; i += 2) {
            x.setDepth(column + between[i], row + between[i + 1], 1);
        }
        Check.same(what + " over land beside it", true, () -> x.reaches(0, column + dx, row + dy));
        for (int i = 0; i < between.length; i += 2) {
            int c = column + between[i];
            int r = row + between[i + 1];
            x.setDepth(c, r, 0);
            Check.same(what + " over land at " + c + "," + r, false, () -> x.reaches(0, column + dx, row + dy));
            x.setDepth(c, r, 1);
        }
    }

    // Or if it is the cell of the light.
    private static void termOwnCellIsAlwaysSwept() {
        BeamChart x = new BeamChart();
        x.addLight(0, 0, 1, 8);
        x.addShip(0, 0, 5);
        x.setDepth(0, 0, 0);
        for (int minute = 0; minute < 9; minute++) {
            Check.same("swept", true, () -> x.sweeps(0, 0, 0));
            Check.same("seen", 1, () -> x.seenBy(0));
            x.pass(1);
        }
    }

    // It reaches it and its beam points to the sector of the cell: one of the two is not enough.
    private static void termReachAndBeamBoth() {
        BeamChart x = new BeamChart();
        x.addLight(0, 0, 3, 8);
        Check.same("reached, in the sector", true, () -> x.sweeps(0, 3, 0));
        Check.same("not reached, in the sector", false, () -> x.sweeps(0, 4, 0));
        Check.same("reached, not in the sector", false, () -> x.sweeps(0, 0, 3));
        Check.same("neither", false, () -> x.sweeps(0, 0, 4));
    }

    // A ship is seen by each light that sweeps its cell.
    private static void termSeenByNoneAndByAll() {
        BeamChart x = new BeamChart();
        x.addShip(7, 0, 5);
        Check.same("no light", 0, () -> x.seenBy(0));
        for (int light = 0; light < 6; light++) {
            x.addLight(light + 2, 0, 9, 8);
        }
        Check.same("six lights, one of them on its cell", 6, () -> x.seenBy(0));
        x.pass(1);
        Check.same("the one on its cell", 1, () -> x.seenBy(0));
    }

    // ---- one minute

    // Moves to a neighbour if there is a way to its goal that is not of length 0.
    private static void termNoWayNoMove() {
        BeamChart x = new BeamChart();
        x.addShip(0, 0, 5);
        x.steer(0, 7, 0);
        x.setDepth(1, 0, 0);
        x.setDepth(0, 1, 0);
        x.pass(48);
        Check.same("it stays and keeps its goal", "00d5>70~48", () -> Edge.ship(x, 0));
        x.setDepth(1, 0, 5);
        x.pass(1);
        Check.same("and moves when there is a way", "10d5>70~49", () -> Edge.ship(x, 0));
    }

    // To the first neighbour, in the order of the directions, with which a shortest way begins.
    private static void termFirstOfEqualDirections() {
        // The goal, a cell that is land, and the first cell: north, east, south, west.
        firstStep(4, 4, -1, -1, 3, 4);
        firstStep(2, 4, -1, -1, 3, 4);
        firstStep(4, 2, -1, -1, 4, 3);
        firstStep(2, 2, -1, -1, 3, 2);
        firstStep(5, 3, 4, 3, 3, 4);
        firstStep(1, 3, 2, 3, 3, 4);
        firstStep(3, 5, 3, 4, 4, 3);
        firstStep(3, 1, 3, 2, 4, 3);
        firstStep(4, 4, 3, 4, 4, 3);
        firstStep(2, 4, 3, 4, 2, 3);
        firstStep(4, 2, 4, 3, 3, 2);
        firstStep(2, 2, 3, 2, 2, 3);
    }

    private static void firstStep(int goalColumn, int goalRow, int landColumn, int landRow, int column, int row) {
        BeamChart x = new BeamChart();
        if (landColumn >= 0) {
            x.setDepth(landColumn, landRow, 0);
        }
        x.addShip(3, 3, 5);
        x.steer(0, goalColumn, goalRow);
        x.pass(1);
        String what = "first step to " + goalColumn + "," + goalRow + " past " + landColumn + "," + landRow;
        Check.same(what + ": column", column, () -> x.columnOf(0));
        Check.same(what + ": row", row, () -> x.rowOf(0));
    }

    // A ship that is on the cell of its goal then has no goal any more.
    private static void termGoalIsReached() {
        BeamChart x = new BeamChart();
        x.addShip(0, 0, 5);
        x.steer(0, 2, 0);
        x.pass(1);
        Check.same("one cell before it", 2, () -> x.goalColumn(0));
        x.pass(1);
        Check.noElement("on it", () -> x.goalColumn(0));
        Check.noElement("on it", () -> x.goalRow(0));
        x.pass(1);
        Check.same("it stays there", "20d5~3", () -> Edge.ship(x, 0));
    }

    // Step 1: the minute increases by 1; the steps after it are those of the new minute.
    private static void termTheNewMinuteCounts() {
        BeamChart x = new BeamChart();
        x.addShip(0, 0, 5);
        x.steer(0, 1, 0);
        x.setDepth(1, 0, 4);
        x.pass(1);
        Check.same("minute 1 has no flood", 0, () -> x.columnOf(0));
        x.pass(1);
        Check.same("minute 2 has, and the ship moves with it", 1, () -> x.columnOf(0));
        BeamChart y = new BeamChart();
        y.pass(9);
        y.addShip(0, 0, 6);
        y.steer(0, 1, 0);
        y.pass(1);
        Check.same("in the ebb of minute 10 the ship does not move", 0, () -> y.columnOf(0));
        Check.same("and is wrecked by it", true, () -> y.isWrecked(0));
        Check.same("its dark minutes do not begin", 0, () -> y.darkMinutes(0));
    }

    // Step 3: each ship whose cell has less water than its draught is wrecked and has no goal any more.
    private static void termJustEnoughWaterToStayAfloat() {
        BeamChart x = new BeamChart();
        x.addShip(0, 0, 5);
        x.addShip(7, 7, 5);
        x.steer(1, 0, 7);
        x.setDepth(7, 6, 4);
        x.setDepth(6, 7, 4);
        x.setDepth(7, 7, 4);
        Check.same("not before the minute passes", false, () -> x.isWrecked(1));
        x.pass(1);
        Check.same("as much water as the draught", false, () -> x.isWrecked(0));
        Check.same("one less", true, () -> x.isWrecked(1));
        Check.noElement("its goal is gone", () -> x.goalColumn(1));
        Check.noElement("its goal is gone", () -> x.goalRow(1));
        Check.same("one wreck", 1, x::wrecks);
        x.pass(12);
        Check.same("a wreck is wrecked once", 1, x::wrecks);
    }

    // Step 4: for each ship that is afloat, each light by which it is seen makes one sighting of it.
    private static void termOneSightingOfEachShipByEachLight() {
        BeamChart x = new BeamChart();
        x.addLight(2, 2, 9, 8);
        x.addLight(2, 3, 9, 8);
        x.addShip(2, 2, 5);
        x.addShip(2, 3, 5);
        x.addShip(3, 4, 5);
        x.addShip(4, 4, 5);
        // At minute 1 both beams are in the sector 1: the first light sees both last ships, the second one the third.
        Check.same("sightings in one minute", 1 + 1 + 2 + 1, () -> x.pass(1));
        Check.same("of the first light", 3, () -> x.sightingsOf(0));
        Check.same("of the second light", 2, () -> x.sightingsOf(1));
    }

    // If there is no such light, the dark minutes of the ship increase by 1, otherwise they become 0.
    private static void termDarkMinutesOfShipsAfloat() {
        BeamChart x = new BeamChart();
        x.addShip(5, 0, 5);
        Check.same("initially 0", 0, () -> x.darkMinutes(0));
        x.pass(1);
        Check.same("no light at all", 1, () -> x.darkMinutes(0));
        x.addLight(0, 0, 9, 8);
        Check.same("a light alone changes nothing", 1, () -> x.darkMinutes(0));
        x.pass(6);
        Check.same("the beam is elsewhere", 7, () -> x.darkMinutes(0));
        x.pass(1);
        Check.same("seen at minute 8", 0, () -> x.darkMinutes(0));
        x.pass(1);
        Check.same("dark again", 1, () -> x.darkMinutes(0));
        x.setDepth(5, 0, 1);
        x.pass(1);
        Check.same("the minute in which it is wrecked does not count", 1, () -> x.darkMinutes(0));
        x.pass(6);
        Check.same("nor does one in which its cell is swept", 1, () -> x.darkMinutes(0));
        Check.same("its cell is swept", 1, () -> x.seenBy(0));
        Check.same("one sighting, before it was wrecked", 1, x::sightings);
    }

    // ---- denials

    // They are kept until the next denial.
    private static void termDenialIsReplacedByTheNext() {
        BeamChart x = new BeamChart();
        Check.denied("present value", x, 7, 5, () -> x.setDepth(0, 0, 5));
        Check.denied("too shallow", x, 3, 5, () -> x.addShip(0, 0, 6));
        Edge.failedCommand("wait 1;wait 0", x, 1, 9);
        Check.denied("a denial without a cause after one with it", x, 3, 5, () -> x.addShip(0, 0, 7));
        x.addShip(0, 0, 5);
        x.pass(1);
        Check.argument("an exception that is no denial", () -> x.pass(0));
        Check.same("kept", 3, x::denial);
        Check.same("kept", 5, x::denialDetail);
    }

    // Denial 9 with detail 0 if the command failed with an exception other than UnsupportedOperationException.
    private static void termCauseNine() {
        BeamChart x = new BeamChart();
        Edge.failedCommand("depth 99=9", x, 0, 9);
        Edge.failedCommand("light 00 0/8", x, 0, 9);
        Edge.failedCommand("douse 0", x, 0, 9);
        Edge.failedCommand("wait 99", x, 0, 9);
    }

    // Each method lists its possible denials in the order in which they are checked.
    private static void termDenialsInTheirOrder() {
        BeamChart lights = Edge.lights(6);
        Check.denied("limit before a light on the cell", lights, 1, 6, () -> lights.addLight(0, 0, 1, 8));
        BeamChart ships = Edge.ships(6);
        Check.denied("limit before the water", ships, 1, 6, () -> ships.addShip(0, 0, 9));
        BeamChart x = Edge.ships(2);
        x.setDepth(1, 1, 1);
        x.setDepth(5, 5, 0);
        x.pass(1);
        Check.denied("wrecked before no way", x, 5, 1, () -> x.steer(1, 5, 5));
    }

    // If the conditions of several exceptions hold, the one that is documented first is thrown.
    private static void termTheFirstDocumentedException() {
        BeamChart x = Edge.lights(6);
        for (int ship = 0; ship < 6; ship++) {
            x.addShip(ship, 1, 5);
        }
        x.setDepth(0, 1, 1);
        x.pass(1);
        Check.index("setDepth: cell before depth", () -> x.setDepth(0, 8, -1));
        Check.index("addLight: cell before range and limit", () -> x.addLight(-1, 0, 0, 25));
        Check.argument("addLight: range before limit", () -> x.addLight(7, 7, 10, 8));
        Check.argument("addLight: period before limit", () -> x.addLight(7, 7, 9, 7));
        Check.index("setPhase: light before phase", () -> x.setPhase(6, 8));
        Check.index("addShip: cell before draught and limit", () -> x.addShip(8, 8, 0));
        Check.argument("addShip: draught before limit and water", () -> x.addShip(0, 0, 10));
        Check.index("steer: cell before wrecked", () -> x.steer(0, 0, 8));
        Check.index("minutesUntilSwept: light before reach", () -> x.minutesUntilSwept(6, 7, 7));
        Check.index("byDivision: light before reach", () -> x.minutesUntilSweptByDivision(6, 7, 7));
        Check.index("sectorOf: light before its cell", () -> x.sectorOf(-1, 0, 0));
        Check.index("lightOn: cell before light", () -> x.lightOn(8, 0));
        Check.index("wayLength: ship before way", () -> x.wayLength(6, 0, 1));
        Check.index("byRounds: ship before way", () -> x.wayLengthByRounds(6, 0, 1));
        Check.index("goalColumn: ship before goal", () -> x.goalColumn(6));
        Check.index("goalRow: ship before goal", () -> x.goalRow(6));
        Check.index("minutesUntilArrival: ship before goal", () -> x.minutesUntilArrival(6));
        Check.argument("execute: grammar before denial", () -> Check.execute(x, "wait 0;wait"));
        Check.noElement("none of them is a denial", x::denial);
    }

    // The detail is the index of the command, from 0.
    private static void termIndexOfTheFailedCommand() {
        BeamChart x = new BeamChart();
        Edge.failedCommand("wait 0;wait 0", x, 0, 9);
        Edge.failedCommand("wait 1;wait 0;wait 0", x, 1, 9);
        Edge.failedCommand("wait 1;wait 1;wait 1;wait 1;wait 1;wait 1;wait 1;wait 0", x, 7, 9);
        Edge.failedCommand("wait 1;wait 1;wait 1;wait 1;wait 1;wait 1;wait 1;douse 5", x, 7, 9);
    }

    // ---- texts

    // The text buffer holds at most 60 characters.
    private static void termSixtyCharacters() {
        BeamChart x = new BeamChart();
        Edge.feed(x, "depth 00=1;depth 01=1;depth 02=1;depth 03=1;wait 1;douse 0");
        Check.same("the 59th", 59, () -> x.feed(';'));
        Check.same("the 60th", 60, () -> x.feed('w'));
        Check.state("the 61st", () -> x.feed('a'));
        Check.argument("the text", x::execute);
        Check.same("it ended too early", 60, x::faultPosition);
        Check.same("the first one again", 1, () -> x.feed('w'));
    }

    // A space in a terminal is exactly one space.
    private static void termExactlyOneSpace() {
        String[] texts = {"depth  00=1", "light  00 1/8", "light 00  1/8", "phase  0=1", "douse  0", "ship  00 1",
            "ship 00  1", "steer  0>00", "salvage  0", "wait  1"};
        int[] faults = {6, 6, 9, 6, 6, 5, 8, 6, 8, 5};
        String[] without = {"depth00=1", "light00 1/8", "light 001/8", "phase0=1", "douse0", "ship00 1", "ship 001",
            "steer0>00", "salvage0", "wait1"};
        for (int text = 0; text < texts.length; text++) {
            Edge.fault(texts[text], faults[text]);
            Edge.fault(without[text], faults[text] - 1);
        }
        Edge.fault("wait\t1", 4);
        Edge.fault("wait\u00a01", 4);
        Edge.fault("wait 1 ", 6);
        Edge.fault(" wait 1", 0);
        Edge.fault("wait 1 ;wait 1", 6);
        Edge.fault("wait 1; wait 1", 7);
    }

    // cell: digit digit
    private static void termDigitsOfACell() {
        BeamChart x = new BeamChart();
        Check.same("the greatest cell", 1, () -> Check.execute(x, "depth 77=9"));
        Check.same("column and row in this order", 1, () -> Check.execute(x, "depth 70=1"));
        Check.same("column 7, row 0", 1, () -> x.depth(7, 0));
        Edge.failedCommand("depth 87=1", x, 0, 9);
        Edge.failedCommand("depth 79=1", x, 0, 9);
        Edge.fault("depth 0=1", 7);
        Edge.fault("depth 000=1", 8);
        Edge.fault("depth 0/=1", 7);
        Edge.fault("depth 0:=1", 7);
    }

    // number: one or two digits
    private static void termOneOrTwoDigits() {
        BeamChart x = new BeamChart();
        Check.same("one digit", 1, () -> Check.execute(x, "wait 9"));
        Check.same("two digits", 1, () -> Check.execute(x, "wait 48"));
        Check.same("two digits with a zero", 1, () -> Check.execute(x, "wait 01"));
        Check.same("minutes", 58, x::minute);
        Edge.fault("wait ", 5);
        Edge.fault("wait ;wait 1", 5);
        Edge.fault("wait 001", 7);
        Edge.fault("wait 480", 7);
        Edge.fault("light 00 1/", 11);
        Edge.fault("light 00 1/024", 13);
        Edge.fault("wait /", 5);
        Edge.fault("wait :", 5);
        Edge.fault("wait 1/", 6);
        Edge.fault("wait 1:", 6);
    }

    // text: command { ";" command }
    private static void termBetweenCommands() {
        Edge.fault("", 0);
        Edge.fault(";", 0);
        Edge.fault(";wait 1", 0);
        Edge.fault("wait 1;", 7);
        Edge.fault("wait 1;;wait 1", 7);
        Edge.fault("wait 1,wait 1", 6);
        Edge.fault("wait 1wait 1", 6);
        Edge.fault("wait 11wait 1", 7);
    }

    // The index of the first character that cannot continue any such text.
    private static void termFaultAfterCommonBeginnings() {
        Edge.fault("d!", 1);
        Edge.fault("depo", 3);
        Edge.fault("dop", 2);
        Edge.fault("s!", 1);
        Edge.fault("sa ", 2);
        Edge.fault("shi ", 3);
        Edge.fault("stee>", 4);
        Edge.fault("shsteer", 2);
        Edge.fault("DEPTH 00=1", 0);
        Edge.fault("wait 1;d!", 8);
        Edge.fault("wait 99;waiT 1", 11);
    }

    // Or the length of the text if it ends too early.
    private static void termTextEndsTooEarly() {
        String[] commands = {"depth 12=3", "light 12 3/8", "phase 1=2", "douse 1", "ship 12 3", "steer 1>23",
            "salvage 1", "wait 1"};
        for (String command : commands) {
            for (int length = 0; length < command.length(); length++) {
                Edge.fault(command.substring(0, length), length);
                Edge.fault("wait 1;" + command.substring(0, length), 7 + length);
            }
        }
    }

    // ---- undo

    // The latest 8 changes can be undone; older ones are forgotten.
    private static void termEightChanges() {
        BeamChart x = new BeamChart();
        for (int change = 1; change <= 9; change++) {
            x.pass(1);
        }
        Check.same("eight of nine", 8, x::undoCount);
        for (int left = 7; left >= 0; left--) {
            int due = left;
            Check.same("undo", due, x::undo);
        }
        Check.state("the ninth", x::undo);
        Check.same("it is not undone", 1, x::minute);
    }

    // The calls of the methods to which commands correspond, and of execute, that do not throw, are the changes.
    private static void termEachKindOfChangeCounts() {
        BeamChart x = new BeamChart();
        x.addLight(0, 0, 1, 8);
        Check.same("addLight", 1, x::undoCount);
        x.setPhase(0, 1);
        Check.same("setPhase", 2, x::undoCount);
        x.removeLight(0);
        Check.same("removeLight", 3, x::undoCount);
        x.addShip(0, 0, 1);
        Check.same("addShip", 4, x::undoCount);
        x.steer(0, 0, 0);
        Check.same("steer", 5, x::undoCount);
        x.setDepth(0, 0, 0);
        Check.same("setDepth", 6, x::undoCount);
        x.pass(1);
        Check.same("pass", 7, x::undoCount);
        x.salvage(0);
        Check.same("salvage", 8, x::undoCount);
    }

    private static void termATextIsOneChange() {
        BeamChart x = new BeamChart();
        Check.execute(x, "depth 00=1;depth 00=2;depth 00=3;wait 2");
        Check.same("execute", 1, x::undoCount);
        x.undo();
        Check.same("all of its commands are undone", 5, () -> x.depth(0, 0));
        Check.same("all of its commands are undone", 0, x::minute);
    }

    private static void termWhatThrowsIsNoChange() {
        BeamChart x = new BeamChart();
        x.pass(1);
        Check.fails("denied", UnsupportedOperationException.class, () -> x.setDepth(0, 0, 5));
        Check.index("no light", () -> x.removeLight(0));
        Check.argument("no minutes", () -> x.pass(0));
        Check.argument("no text", x::execute);
        Edge.failedCommand("wait 1;wait 0", x, 1, 9);
        Check.same("one change", 1, x::undoCount);
        x.undo();
        Check.same("it was the first one", 0, x::minute);
    }

    // The text buffer, the fault position, the output line and the latest denial are not affected by undo.
    private static void termUndoLeavesTheRest() {
        BeamChart x = withTheRest();
        x.undo();
        x.undo();
        theRestStands(x);
    }

    // Nor by snapshots.
    private static void termSnapshotsLeaveTheRest() {
        BeamChart x = new BeamChart();
        x.saveSnapshot();
        withTheRest(x);
        x.restoreSnapshot();
        theRestStands(x);
        Edge.feed(x, "wait");
        x.saveSnapshot();
        x.restoreSnapshot();
        Check.same("the buffer again", 5, () -> x.feed(' '));
    }

    private static BeamChart withTheRest() {
        return withTheRest(new BeamChart());
    }

    private static BeamChart withTheRest(BeamChart x) {
        x.setDepth(3, 0, 9);
        x.pass(1);
        Check.argument("a fault", () -> Check.execute(x, "wait 1;w!"));
        Edge.failedCommand("wait 1;depth 30=9", x, 1, 7);
        x.writeRow(0);
        Edge.feed(x, "wai");
        return x;
    }

    private static void theRestStands(BeamChart x) {
        Check.same("undone", 0, x::minute);
        Check.same("fault", 8, x::faultPosition);
        Check.same("denial", 8, x::denial);
        Check.same("detail", 1, x::denialDetail);
        Check.same("cause", 7, x::denialCause);
        Check.same("line", "55595555", () -> Check.line(x, 8));
        Check.same("buffer", 4, () -> x.feed('t'));
        Check.same("text", 1, () -> Check.execute(x, " 2"));
        Check.same("minute", 2, x::minute);
    }
}
