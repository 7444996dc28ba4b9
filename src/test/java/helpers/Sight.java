import java.util.ArrayList;
import java.util.List;

/**
 * All that can be seen of a well, by asking it. What can be seen only by changing something (what an item can hold,
 * whether THE TEXT is a COUNTRY, what THE IMAGE is) comes last.
 */
final class Sight {
    private final WellLendsDepth x;
    private final List<String> seen = new ArrayList<>();

    private Sight(WellLendsDepth x) {
        this.x = x;
    }

    /** What is seen, an answer a line: as many as there are calls. */
    static List<String> of(WellLendsDepth x) {
        Sight sight = new Sight(x);
        sight.counts();
        sight.how();
        sight.borrowers(12);
        sight.rows();
        sight.daysToCome();
        sight.whatIsTold();
        sight.tapes();
        sight.text();
        sight.see("undo", x.undo());
        sight.how();
        sight.borrowers(7);
        sight.whatIsTold();
        return sight.seen;
    }

    private long see(String what, long answer) {
        seen.add(what + " = " + answer);
        return answer;
    }

    private long many() {
        return see("count(0)", x.count(0));
    }

    private void counts() {
        for (int what = 0; what <= 6; what++) {
            see("count(" + what + ")", x.count(what));
        }
        for (int i = 0; i <= 12; i++) {
            see("trace(" + i + ")", x.trace(i));
        }
    }

    private void how() {
        for (int what = 0; what <= 5; what++) {
            see("told(" + what + ")", x.told(what));
        }
        long many = many();
        for (int place = 0; place < many; place++) {
            see("told(" + (10 + place) + ")", x.told(10 + place));
        }
    }

    private void borrowers(int most) {
        long many = many();
        for (int b = 0; b < many; b++) {
            for (int what = 0; what <= most; what++) {
                see("of(" + b + ", " + what + ")", x.of(b, what));
            }
        }
    }

    private void rows() {
        long many = many();
        for (int b = 0; b < many; b++) {
            boolean isTold = see("of(" + b + ", 0)", x.of(b, 0)) == 6;
            for (int part = 0; part < 4 && isTold; part++) {
                int was = x.row(b, part, 0);
                see("row(" + b + ", " + part + ")", was);
                see("row(" + b + ", " + part + ") again", x.row(b, part, was));
            }
        }
    }

    private void daysToCome() {
        for (int what = 0; what <= 2; what++) {
            see("on(60, " + what + ")", x.on(60, what));
        }
        for (int what = 0; what <= 3; what++) {
            see("best(" + what + ")", x.best(what));
        }
        see("lowest(60, 1)", x.lowest(60, 1));
        see("first()", x.first());
        see("more(12)", x.more(12));
        see("mean(60, 0)", x.mean(60, 0));
    }

    private void whatIsTold() {
        see("gone(0)", x.gone(0));
        see("gone(1)", x.gone(1));
        see("looked()", x.looked());
        long many = many();
        for (int b = 0; b < many; b++) {
            see("wanted(" + b + ", 0)", x.wanted(b, 0));
            see("can(" + b + ", 0)", x.can(b, 0));
        }
    }

    private void tapes() {
        for (int tape = 0; tape < 6; tape++) {
            for (int i = 0; i <= 6; i++) {
                see("read(" + tape + ", " + i + ")", x.read(tape, i));
            }
            see("item of " + tape, x.item(tape, 0, 0x123456789ABCDEF0L));
            see("its sort", x.read(tape, 0));
        }
    }

    private void text() {
        see("country()", x.country());
        see("its MARK", x.told(2));
    }
}
