import java.util.ArrayList;
import java.util.Arrays;
import java.util.List;

/** A second, slow chart, written from the document with other means; changes answer null if they are refused. */
final class PlainChart {
    static final class Light {
        int column;
        int row;
        int range;
        int period;
        int phase;
        int sightings;
    }

    static final class Ship {
        int column;
        int row;
        int draught;
        int[] goal;
        boolean wrecked;
        int dark;
    }

    private static final int[][] DIRECTIONS = {{0, 1}, {1, 0}, {0, -1}, {-1, 0}};

    final int[][] depths = new int[8][8];
    final List<Light> lights = new ArrayList<>();
    final List<Ship> ships = new ArrayList<>();
    int minute;
    int sightings;
    int wrecks;
    int salvaged;

    PlainChart() {
        for (int[] column : depths) {
            Arrays.fill(column, 5);
        }
    }

    PlainChart(PlainChart other) {
        for (int column = 0; column < 8; column++) {
            depths[column] = other.depths[column].clone();
        }
        for (Light light : other.lights) {
            Light copy = new Light();
            copy.column = light.column;
            copy.row = light.row;
            copy.range = light.range;
            copy.period = light.period;
            copy.phase = light.phase;
            copy.sightings = light.sightings;
            lights.add(copy);
        }
        for (Ship ship : other.ships) {
            Ship copy = new Ship();
            copy.column = ship.column;
            copy.row = ship.row;
            copy.draught = ship.draught;
            copy.goal = ship.goal;
            copy.wrecked = ship.wrecked;
            copy.dark = ship.dark;
            ships.add(copy);
        }
        minute = other.minute;
        sightings = other.sightings;
        wrecks = other.wrecks;
        salvaged = other.salvaged;
    }

    static int tide(int minute) {
        return "001122221100".charAt(minute % 12) - '0';
    }

    int water(int column, int row) {
        return depths[column][row] == 0 ? 0 : depths[column][row] + tide(minute);
    }

    static int sector(int dx, int dy) {
        double angle = Math.toDegrees(Math.atan2(dy, dx));
        return (int) Math.floor((angle + 360 + 1e-9) % 360 / 45);
    }

    int beam(Light light) {
        return (light.phase + (int) Math.floor(8.0 * minute / light.period + 1e-9)) % 8;
    }

    boolean reaches(Light light, int column, int row) {
        int dx = column - light.column;
        int dy = row - light.row;
        if (Math.hypot(dx, dy) > light.range + 1e-9) {
            return false;
        }
        int n = Math.max(Math.abs(dx), Math.abs(dy));
        for (int k = 1; k < n; k++) {
            // The halves are exact in a double only by chance, so they are pushed up.
            int x = light.column + (int) Math.floor((double) k * dx / n + 0.5 + 1e-9);
            int y = light.row + (int) Math.floor((double) k * dy / n + 0.5 + 1e-9);
            if (depths[x][y] == 0) {
                return false;
            }
        }
        return true;
    }

    boolean sweeps(Light light, int column, int row) {
        if (light.column == column && light.row == row) {
            return true;
        }
        return reaches(light, column, row) && beam(light) == sector(column - light.column, row - light.row);
    }

    int seen(Ship ship) {
        int count = 0;
        for (Light light : lights) {
            if (sweeps(light, ship.column, ship.row)) {
                count++;
            }
        }
        return count;
    }

    /** The length of a shortest way by depth-limited trials from the goal backwards, or -1. */
    int way(int draught, int column, int row, int toColumn, int toRow) {
        boolean[][] at = new boolean[8][8];
        at[column][row] = true;
        for (int length = 0; length < 64; length++) {
            if (at[toColumn][toRow]) {
                return length;
            }
            boolean[][] next = new boolean[8][8];
            for (int x = 0; x < 8; x++) {
                for (int y = 0; y < 8; y++) {
                    for (int[] direction : DIRECTIONS) {
                        int u = x + direction[0];
                        int v = y + direction[1];
                        if (at[x][y] && u >= 0 && u < 8 && v >= 0 && v < 8 && water(u, v) >= draught) {
                            next[u][v] = true;
                        }
                    }
                }
            }
            at = next;
        }
        return -1;
    }

    void move(Ship ship) {
        int length = way(ship.draught, ship.column, ship.row, ship.goal[0], ship.goal[1]);
        if (length < 1) {
            return;
        }
        for (int[] direction : DIRECTIONS) {
            int u = ship.column + direction[0];
            int v = ship.row + direction[1];
            if (u < 0 || u > 7 || v < 0 || v > 7 || water(u, v) < ship.draught) {
                continue;
            }
            if (way(ship.draught, u, v, ship.goal[0], ship.goal[1]) == length - 1) {
                ship.column = u;
                ship.row = v;
                break;
            }
        }
        if (ship.column == ship.goal[0] && ship.row == ship.goal[1]) {
            ship.goal = null;
        }
    }

    int pass(int minutes) {
        int before = sightings;
        for (int passed = 0; passed < minutes; passed++) {
            minute++;
            for (Ship ship : ships) {
                if (!ship.wrecked && ship.goal != null) {
                    move(ship);
                }
            }
            for (Ship ship : ships) {
                if (!ship.wrecked && water(ship.column, ship.row) < ship.draught) {
                    ship.wrecked = true;
                    ship.goal = null;
                    wrecks++;
                }
            }
            for (Ship ship : ships) {
                if (!ship.wrecked) {
                    sight(ship);
                }
            }
        }
        return sightings - before;
    }

    private void sight(Ship ship) {
        ship.dark++;
        for (Light light : lights) {
            if (sweeps(light, ship.column, ship.row)) {
                light.sightings++;
                sightings++;
                ship.dark = 0;
            }
        }
    }

    Integer setDepth(int column, int row, int depth) {
        int before = depths[column][row];
        if (depth < 0 || depth > 9 || before == depth) {
            return null;
        }
        depths[column][row] = depth;
        return before;
    }

    Integer addLight(int column, int row, int range, int period) {
        if (range < 1 || range > 9 || period < 8 || period > 24 || lights.size() == 6) {
            return null;
        }
        for (Light light : lights) {
            if (light.column == column && light.row == row) {
                return null;
            }
        }
        Light light = new Light();
        light.column = column;
        light.row = row;
        light.range = range;
        light.period = period;
        lights.add(light);
        return lights.size() - 1;
    }

    Integer setPhase(int light, int phase) {
        if (light < 0 || light >= lights.size() || phase < 0 || phase > 7 || lights.get(light).phase == phase) {
            return null;
        }
        int before = lights.get(light).phase;
        lights.get(light).phase = phase;
        return before;
    }

    Integer removeLight(int light) {
        return light < 0 || light >= lights.size() ? null : (Integer) lights.remove(light).sightings;
    }

    Integer addShip(int column, int row, int draught) {
        if (draught < 1 || draught > 9 || ships.size() == 6 || water(column, row) < draught) {
            return null;
        }
        Ship ship = new Ship();
        ship.column = column;
        ship.row = row;
        ship.draught = draught;
        ships.add(ship);
        return ships.size() - 1;
    }

    Integer steer(int index, int column, int row) {
        if (index < 0 || index >= ships.size() || ships.get(index).wrecked) {
            return null;
        }
        Ship ship = ships.get(index);
        int length = way(ship.draught, ship.column, ship.row, column, row);
        if (length < 0) {
            return null;
        }
        ship.goal = length == 0 ? null : new int[] {column, row};
        return length;
    }

    Integer salvage(int index) {
        if (index < 0 || index >= ships.size() || !ships.get(index).wrecked) {
            return null;
        }
        int worth = 10 * ships.remove(index).draught;
        salvaged += worth;
        return worth;
    }
}
