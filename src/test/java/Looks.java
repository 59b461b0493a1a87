import java.util.ArrayList;
import java.util.List;

/** All that an object tells of itself, in words, so that two of them can be laid side by side. */
final class Looks {
    private final StoneCensus x;
    private final List<String> seen = new ArrayList<>();

    private Looks(StoneCensus x) {
        this.x = x;
    }

    /** Asked last of an object: it is undone, redone, gone back to its boxes, and its tape is read. */
    static List<String> at(StoneCensus x, boolean lying, boolean tape) {
        Looks looks = new Looks(x);
        looks.aboutAll(lying, tape);
        looks.houses();
        looks.reports();
        looks.history();
        looks.boxes();
        if (tape) {
            looks.tape();
        }
        return looks.seen;
    }

    private void see(String what, long answer) {
        seen.add(what + ": " + answer);
    }

    private void aboutAll(boolean lying, boolean tape) {
        for (int what = 0; what <= 8; what++) {
            if (what != 7 || tape) {
                see("about " + what, x.about(what));
            }
        }
        if (tape) {
            see("fault 0", x.fault(0));
            see("fault 1", x.fault(1));
        }
        if (lying) {
            see("how many lie there", x.about(9));
            for (int i = 0; i < 6; i++) {
                see("lies " + i, x.lies(i));
            }
        }
    }

    private void houses() {
        for (int house = 0; house < x.about(0); house++) {
            for (int what = 0; what <= 9; what++) {
                see("house " + house + " " + what, x.house(house, what));
            }
        }
        see("falses", x.falses());
    }

    private void reports() {
        for (int k = -1; k <= Math.min(x.about(6), 8); k++) {
            see("truths at " + k, x.truths(k));
            see("liars at " + k, x.liars(k));
            see("the first of the row at " + k, x.lies(0));
        }
    }

    private void history() {
        int ahead = x.about(4);
        int behind = x.about(3);
        for (int i = 0; i <= behind; i++) {
            see("undo", x.undo() ? 1 : 0);
            row();
        }
        for (int i = 0; i <= behind + ahead; i++) {
            see("redo", x.redo() ? 1 : 0);
            row();
        }
    }

    private void boxes() {
        for (int box = 0; box < 3; box++) {
            see("back to " + box, x.back(box));
            row();
        }
    }

    private void tape() {
        see("province", x.province());
        see("its fault", x.fault(0));
        see("its place", x.fault(1));
        see("units", x.about(8));
        row();
    }

    private void row() {
        for (int house = 0; house < x.about(0); house++) {
            for (int what = 1; what <= 3; what++) {
                see("house " + house + " " + what, x.house(house, what));
            }
        }
        see("the year", x.about(1));
        see("the seed", x.about(2));
    }
}
