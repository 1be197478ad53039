/** Promises 19 to 21: undo and the snapshot. */
public final class HistoryTest {
    private static final Check CHECK = new Check("HistoryTest");

    public static void main(String[] args) {
        undo();
        undoOfEveryAct();
        noActs();
        keepAndRestore();
        snapshotIsNoPartOfAState();
        restoreAll();
        CHECK.end();
    }

    private static void due(String call, long got, long want) {
        CHECK.due(call, got, want);
    }

    private static void undo() {
        FerryCrews x = new FerryCrews();
        due("an empty history", x.undo(), -5);
        for (int n = 0; n < 7; n++) {
            x.member(0, 10 + n);
            due("states", x.count(11), Math.min(n + 1, 4));
        }
        for (int left = 3; left >= 0; left--) {
            due("states left", x.undo(), left);
            due("told", x.count(11), left);
            due("members", x.count(5), 3 + left);
        }
        due("the oldest were dropped", x.undo(), -5);
        due("members", x.count(5), 3);
        x.member(1, 99);
        due("another act", x.count(11), 1);
        due("the certificates of the fourth", x.memberOf(3, 0), 0);
        due("the latest", x.undo(), 0);
    }

    /** Everything that can be told of a state, in one number. */
    private static long told(FerryCrews x) {
        long all = 17;
        for (int what = 0; what <= 17; what++) {
            all = what == 11 || what == 12 ? all : all * 31 + x.count(what);
        }
        for (int n = 0; n < 4; n++) {
            for (int what = 0; what <= 9; what++) {
                all = all * 31 + x.memberOf(n, what);
                all = all * 31 + x.sailingOf(n, what);
                all = all * 31 + x.crew(n, what / 3, what % 3);
                all = all * 31 + x.ladder(n, what);
            }
        }
        return all;
    }

    private static FerryCrews made() {
        FerryCrews x = Check.withoutRests();
        x.member(0, 900);
        x.member(0, 900);
        x.certify(1, 1, 900);
        x.climb(1, 1);
        x.sailing(0, 5, 2, 1000);
        x.sailing(1, 8, 4, 1100);
        x.give(0, 0, 0);
        x.give(0, 1, 0);
        x.sick(1, 2);
        Check.type(x, "2:50+4=1000;3:50+4=1000");
        x.keep();
        x.member(3, 4);
        return x;
    }

    private static void undoOfEveryAct() {
        for (int act = 0; act < 15; act++) {
            FerryCrews x = made();
            long before = told(x);
            due("act " + act, act(x, act) >= 0 ? 1 : 0, 1);
            due("act " + act + " changes what is told", told(x) != before ? 1 : 0, act == 13 ? 0 : 1);
            due("undo of act " + act, x.undo(), 3);
            due("what is told then", told(x) == before ? 1 : 0, 1);
        }
    }

    private static int act(FerryCrews x, int act) {
        switch (act) {
            case 0: return x.sailing(5, 800, 12, 3333);
            case 1: return x.sailings();
            case 2: return x.cancel(1);
            case 3: return x.member(2, 77);
            case 4: return x.certify(0, 3, 77);
            case 5: return x.climb(0, 0);
            case 6: return x.leave(1, 0);
            case 7: return x.sick(0, 7);
            case 8: return x.well(1);
            case 9: return x.giveUp(0, 1);
            case 10: return x.fill(1);
            case 11: return x.pass(9);
            case 12: return x.set(4, 3);
            case 13: return x.climb(1, 1);
            default: return x.restore();
        }
    }

    private static void noActs() {
        FerryCrews x = made();
        x.undo();
        long before = told(x);
        x.type('1');
        x.clearText();
        x.fault();
        x.keep();
        x.sailingOf(0, 0);
        x.why(1, 1, 1);
        x.able(1, 1);
        due("ifSick", x.ifSick(0, 9), 0);
        due("weakest", x.weakest(9), 0);
        x.cancelledIn(100);
        x.sailings();
        x.give(0, 0, 0);
        x.fill(0);
        x.leave(0, 1);
        x.set(4, 48);
        x.set(0, 21);
        due("states", x.count(11), 3);
        due("what is told", told(x) == before ? 1 : 0, 1);
    }

    private static void keepAndRestore() {
        FerryCrews x = new FerryCrews();
        due("no snapshot", x.restore(), -5);
        due("not recorded", x.count(11), 0);
        x.pass(7);
        due("keep tells now", x.keep(), 7);
        due("keep is no act", x.count(11), 1);
        x.pass(5);
        x.member(0, 5);
        due("restore tells now", x.restore(), 7);
        due("restore is an act", x.count(11), 4);
        due("no member", x.count(5), 0);
        x.pass(1);
        due("the snapshot stays", x.restore(), 7);
        due("undo of restore", x.undo(), 3);
        due("now", x.count(0), 8);
        due("in place of the one that was", x.keep(), 8);
        x.pass(1);
        due("the new one", x.restore(), 8);
        due("restored though nothing changes", x.restore(), 8);
        due("recorded too", x.undo(), 3);
    }

    private static void snapshotIsNoPartOfAState() {
        FerryCrews x = new FerryCrews();
        x.member(0, 5);
        x.keep();
        x.undo();
        due("the snapshot is not undone", x.restore(), 0);
        due("its member", x.count(5), 1);
        x.undo();
        due("nor by its own undo", x.restore(), 0);
        due("the history is not restored", x.count(11), 1);
    }

    private static void restoreAll() {
        FerryCrews x = made();
        x.keep();
        long kept = told(x);
        x.set(3, 0);
        x.sick(0, 300);
        x.fill(1);
        x.leave(1, 0);
        x.certify(1, 0, 3);
        x.pass(100);
        x.sailing(0, 300, 3, 3000);
        x.member(1, 5);
        due("restore", x.restore(), 0);
        due("what is told", told(x) == kept ? 1 : 0, 1);
        x.cancel(0);
        due("restore again", x.restore(), 0);
        due("what is told again", told(x) == kept ? 1 : 0, 1);
    }
}
