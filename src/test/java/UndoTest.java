/** Promises 58 to 61. */
public final class UndoTest {
    public static void main(String[] args) {
        promise58EachChange();
        promise58OnlyEight();
        promise58LeavesTexts();
        promise59UndoCount();
        promise60And61Snapshots();
        promise61AndUndo();
        Check.end("UndoTest");
    }

    /** Makes one change of each kind; each of them alters something. */
    private static void change(BeamChart x, int kind) {
        switch (kind) {
            case 0:
                x.addLight(2, 2, 4, 9);
                break;
            case 1:
                x.addShip(2, 2, 5);
                break;
            case 2:
                x.steer(0, 5, 5);
                break;
            case 3:
                x.setPhase(0, 3);
                break;
            case 4:
                x.pass(2);
                break;
            case 5:
                x.setDepth(2, 4, 1);
                break;
            case 6:
                Check.execute(x, "wait 2;ship 77 1;light 77 1/8;depth 76=3");
                break;
            case 7:
                x.setDepth(x.columnOf(0), x.rowOf(0), 0);
                break;
            case 8:
                x.steer(0, x.columnOf(0), x.rowOf(0));
                break;
            case 9:
                x.pass(1);
                break;
            case 10:
                x.salvage(0);
                break;
            default:
                x.removeLight(0);
        }
    }

    private static final int KINDS = 12;

    private static void promise58EachChange() {
        for (int kind = 0; kind < KINDS; kind++) {
            BeamChart x = new BeamChart();
            x.setDepth(7, 0, 9);
            for (int before = 0; before < kind; before++) {
                change(x, before);
            }
            int count = x.undoCount();
            Check.same("count before " + kind, Math.min(kind + 1, 8), () -> count);
            String portrait = Check.portrait(x);
            BeamChart y = new BeamChart();
            y.setDepth(7, 0, 9);
            for (int again = 0; again <= kind; again++) {
                change(y, again);
            }
            Check.same("undo of " + kind, Math.min(kind + 1, 7), y::undo);
            Check.same("after the undo of " + kind, portrait, () -> Check.portrait(y));
        }
    }

    private static void promise58OnlyEight() {
        BeamChart x = new BeamChart();
        Check.state("nothing to undo", x::undo);
        for (int depth = 1; depth < 5; depth++) {
            x.setDepth(0, 0, depth);
        }
        for (int left = 3; left >= 0; left--) {
            int due = left;
            Check.same("undo", due, x::undo);
            Check.same("depth", due == 0 ? 5 : due, () -> x.depth(0, 0));
        }
        Check.state("nothing is left", x::undo);
        for (int minute = 0; minute < 21; minute++) {
            x.pass(1);
        }
        Check.same("eight", 8, x::undoCount);
        for (int left = 7; left >= 0; left--) {
            int due = left;
            Check.same("undo", due, x::undo);
            Check.same("minute", 13 + due, x::minute);
        }
        Check.state("older ones are forgotten", x::undo);
        Check.same("minute", 13, x::minute);
        x.pass(10);
        x.undo();
        x.pass(20);
        Check.same("undo is no change", 1, x::undoCount);
        x.undo();
        Check.same("back", 13, x::minute);
    }

    private static void promise58LeavesTexts() {
        BeamChart x = new BeamChart();
        x.pass(1);
        x.writeRow(0);
        x.feed('w');
        Check.same("undo", 0, x::undo);
        Check.same("the line stays", '5', () -> x.lineCharacter(7));
        Check.same("the buffer stays", 2, () -> x.feed('a'));
        x.saveSnapshot();
        x.feed('i');
        x.restoreSnapshot();
        Check.same("the buffer still stays", 1, () -> Check.execute(x, "t 3"));
        x.undo();
        Check.same("the buffer stays empty", 1, () -> Check.execute(x, "wait 4"));
        Check.same("minute", 4, x::minute);
    }

    private static void promise59UndoCount() {
        BeamChart x = new BeamChart();
        Check.same("none", 0, x::undoCount);
        x.pass(1);
        x.addShip(0, 0, 1);
        Check.same("two", 2, x::undoCount);
        Check.index("refused", () -> x.steer(1, 0, 0));
        Check.argument("refused", () -> x.pass(0));
        Check.fails("denied", UnsupportedOperationException.class, () -> x.salvage(0));
        Check.fails("denied", UnsupportedOperationException.class, () -> Check.execute(x, "wait 1;salvage 0"));
        Check.argument("no text", x::execute);
        x.feed('a');
        x.writeRow(1);
        x.saveSnapshot();
        x.wayLength(0, 3, 3);
        x.tide();
        Check.same("still two", 2, x::undoCount);
        x.steer(0, 0, 0);
        Check.same("a steer that alters nothing is a change", 3, x::undoCount);
        for (int count = 4; count < 12; count++) {
            x.pass(1);
            int due = Math.min(count, 8);
            Check.same("undoCount", due, x::undoCount);
        }
    }

    private static void promise60And61Snapshots() {
        BeamChart x = new BeamChart();
        Check.state("no snapshot", x::restoreSnapshot);
        for (int kind = 0; kind < 7; kind++) {
            change(x, kind);
        }
        Check.same("two ships", 2, x::saveSnapshot);
        Check.same("saving is no change", 7, x::undoCount);
        BeamChart y = new BeamChart();
        for (int kind = 0; kind < 7; kind++) {
            change(y, kind);
        }
        String portrait = Check.portrait(y);
        for (int kind = 7; kind < KINDS; kind++) {
            change(x, kind);
        }
        Check.same("one ship", 1, x::shipCount);
        Check.same("two ships again", 2, x::restoreSnapshot);
        Check.same("no change can be undone", 0, x::undoCount);
        Check.state("no change can be undone", x::undo);
        Check.same("all is back", portrait, () -> Check.portrait(x));
        x.pass(1);
        Check.same("the snapshot is kept", 2, x::restoreSnapshot);
        Check.same("minute", 4, x::minute);
    }

    private static void removedSightingsComeBack() {
        BeamChart x = new BeamChart();
        x.addLight(0, 0, 1, 8);
        x.addShip(0, 0, 1);
        x.pass(5);
        x.saveSnapshot();
        x.removeLight(0);
        Check.same("of the removed light", 5, x::sightingsByLights);
        x.undo();
        Check.same("of the light that came back", 5, x::sightingsByLights);
        x.removeLight(0);
        x.restoreSnapshot();
        Check.same("of the light in the snapshot", 5, x::sightingsByLights);
        x.removeLight(0);
        x.saveSnapshot();
        x.pass(1);
        x.restoreSnapshot();
        Check.same("removed in the snapshot", 5, x::sightingsByLights);
    }

    private static void promise61AndUndo() {
        BeamChart x = new BeamChart();
        Check.same("no ships", 0, x::saveSnapshot);
        x.addShip(0, 0, 1);
        Check.same("a later snapshot", 1, x::saveSnapshot);
        x.setDepth(3, 3, 3);
        x.undo();
        x.undo();
        Check.same("undone", 0, x::shipCount);
        Check.same("undo leaves the snapshot", 1, x::restoreSnapshot);
        Check.same("the later one replaced the earlier one", 1, x::shipCount);
        x.setDepth(0, 0, 0);
        x.pass(1);
        Check.same("wrecked", true, () -> x.isWrecked(0));
        x.restoreSnapshot();
        Check.same("afloat again", false, () -> x.isWrecked(0));
        Check.same("no wrecks", 0, x::wrecks);
        Check.same("depth", 5, () -> x.depth(0, 0));
        removedSightingsComeBack();
        x.pass(3);
        Check.same("changes after it can be undone", 0, x::undo);
        Check.same("minute", 0, x::minute);
    }
}
