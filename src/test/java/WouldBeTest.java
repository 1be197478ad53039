/** Promises 30 to 36: what would be. */
public final class WouldBeTest {
    private static final Check CHECK = new Check("WouldBeTest");

    public static void main(String[] args) {
        why();
        able();
        ifSick();
        ifSickIsAsSickTellsIt();
        weakest();
        atRisk();
        cancelledIn();
        freshest();
        CHECK.end();
    }

    private static void due(String call, long got, long want) {
        CHECK.due(call, got, want);
    }

    private static void why() {
        FerryCrews x = Check.withoutRests();
        due("nothing there", x.why(0, 0, 0), -1);
        x.member(0, 14);
        x.sailing(0, 10, 4, 1100);
        due("member -1", x.why(-1, 0, 0), -1);
        due("member 1", x.why(1, 0, 0), -1);
        due("sailing -1", x.why(0, -1, 0), -1);
        due("sailing 1", x.why(0, 1, 0), -1);
        due("role -1", x.why(0, 0, -1), -1);
        due("role 4", x.why(0, 0, 4), -1);
        due("it can", x.why(0, 0, 0), 0);
        due("it does not", x.sailingOf(0, 6), 2);
        due("no certificate", x.why(0, 0, 1), 3);
        due("no places", x.why(0, 0, 2), 2);
        x.certify(0, 0, 13);
        due("it ends too early", x.why(0, 0, 0), 3);
        x.certify(0, 0, 14);
        x.sick(0, 11);
        due("sick", x.why(0, 0, 0), 4);
        x.well(0);
        x.give(0, 0, 0);
        due("taken", x.why(0, 0, 0), 2);
        x.certify(0, 1, 900);
        due("on it", x.why(0, 0, 1), 5);
        x.sailing(1, 14, 4, 100);
        due("a handover in its last hour", x.why(0, 1, 1), 6);
        due("recorded are acts alone", x.count(11), 4);
        x.pass(11);
        due("cancelled", x.why(0, 0, 0), 1);
        due("the rests hold then", x.why(0, 1, 1), 0);
    }

    private static void able() {
        FerryCrews x = Check.withoutRests();
        due("no sailing", x.able(0, 0), -1);
        x.sailing(0, 10, 4, 2100);
        due("no members", x.able(0, 0), 0);
        for (int n = 0; n < 12; n++) {
            x.member(n % 3 == 0 ? 1 : 0, 900);
        }
        due("sailing -1", x.able(-1, 0), -1);
        due("sailing 1", x.able(1, 0), -1);
        due("role -1", x.able(0, -1), -1);
        due("role 4", x.able(0, 4), -1);
        due("role 0", x.able(0, 0), 0b110110110110);
        due("role 1", x.able(0, 1), 0b001001001001);
        due("a role without places", x.able(0, 2), 0);
        x.leave(1, 0);
        x.sick(11, 11);
        x.certify(4, 0, 13);
        x.give(5, 0, 0);
        due("also off the ladder, not the sick", x.able(0, 0), 0b010111000110 & ~(1 << 6));
        x.give(1, 0, 0);
        due("all taken", x.able(0, 0), 0);
    }

    private static FerryCrews crowd() {
        FerryCrews x = Check.withoutRests();
        for (int n = 0; n < 4; n++) {
            x.member(0, 900);
        }
        x.sailing(0, 10, 4, 1000);
        x.sailing(1, 10, 4, 2000);
        x.sailing(2, 30, 4, 3000);
        x.give(1, 0, 0);
        x.give(2, 1, 0);
        x.give(3, 1, 0);
        x.give(1, 2, 0);
        x.give(2, 2, 0);
        x.give(3, 2, 0);
        return x;
    }

    private static void ifSick() {
        FerryCrews x = new FerryCrews();
        due("no member", x.ifSick(0, 5), -1);
        x = crowd();
        due("member -1, hours wrong too", x.ifSick(-1, 0), -1);
        due("member 4", x.ifSick(4, 5), -1);
        due("hours 0", x.ifSick(1, 0), -2);
        due("hours 401", x.ifSick(1, 401), -2);
        due("no place in these hours", x.ifSick(1, 10), 0);
        due("0 covers", x.ifSick(1, 11), 0);
        due("0 covers both", x.ifSick(1, 400), 0);
        due("0 has none", x.ifSick(0, 400), 0);
        x.sick(0, 20);
        due("0 covers the second", x.ifSick(1, 400), 1);
        x.sick(0, 400);
        due("nobody covers", x.ifSick(1, 400), 2);
        due("of the first", x.ifSick(1, 30), 1);
        due("not sick", x.memberOf(1, 4), -5);
        due("nothing is given up", x.memberOf(1, 5), 2);
        due("no covers", x.count(9), 0);
        due("recorded are acts alone", x.undo(), 3);
        due("0 is sick for 20 hours", x.memberOf(0, 4), 20);
    }

    private static void ifSickIsAsSickTellsIt() {
        for (int member = 0; member < 4; member++) {
            for (int hours = 1; hours <= 40; hours += 3) {
                FerryCrews x = crowd();
                x.sick(3, 15);
                x.pass(2);
                int told = x.ifSick(member, hours);
                due("sick(" + member + ", " + hours + ")", x.sick(member, hours), told);
            }
        }
    }

    private static void weakest() {
        FerryCrews x = new FerryCrews();
        due("hours 0, no members", x.weakest(0), -2);
        due("hours 401", x.weakest(401), -2);
        due("no members", x.weakest(400), -5);
        x = crowd();
        due("none stays free", x.weakest(400), 0);
        x.leave(0, 0);
        due("the lowest of several", x.weakest(20), 1);
        x.giveUp(1, 0);
        due("1 covers 2 and 3 in these hours", x.weakest(20), 0);
        due("not in these", x.weakest(31), 1);
        x.giveUp(1, 2);
        due("1 covers all then", x.weakest(400), 0);
        x.leave(1, 0);
        due("nobody covers", x.weakest(400), 2);
        x.cancel(1);
        due("3 has as many", x.weakest(400), 2);
        x.giveUp(2, 2);
        x.leave(2, 0);
        due("3 alone", x.weakest(400), 3);
        due("in no hours of it", x.weakest(30), 0);
        due("nothing is given up", x.memberOf(3, 5), 1);
        due("nobody is sick", x.count(6), 0);
    }

    private static void atRisk() {
        FerryCrews x = Check.withoutRests();
        due("no sailings", x.atRisk(), -5);
        x.member(0, 900);
        x.sailing(0, 30, 4, 1000);
        x.sailing(1, 20, 4, 1000);
        x.sailing(2, 20, 4, 1000);
        x.sailing(3, 10, 4, 1000);
        due("the first by start", x.atRisk(), 3);
        x.give(0, 3, 0);
        due("of several by number", x.atRisk(), 1);
        x.cancel(1);
        due("no cancelled one", x.atRisk(), 2);
        x.pass(21);
        due("no one that did not sail", x.atRisk(), 0);
        x.give(0, 0, 0);
        due("none has a free place", x.atRisk(), -5);
        due("no act", x.undo(), 3);
    }

    private static void cancelledIn() {
        FerryCrews x = Check.withoutRests();
        due("hours 0", x.cancelledIn(0), -2);
        due("hours 1001", x.cancelledIn(1001), -2);
        due("hours of the greatest number", x.cancelledIn(Integer.MAX_VALUE), -2);
        due("no sailings", x.cancelledIn(1000), 0);
        x.member(0, 900);
        x.sailing(0, 2, 4, 1000);
        x.sailing(1, 5, 4, 1000);
        x.sailing(2, 5, 4, 2000);
        x.sailing(3, 900, 12, 1000);
        x.give(0, 2, 0);
        due("2 hours", x.cancelledIn(2), 0);
        due("3 hours", x.cancelledIn(3), 1);
        due("5 hours", x.cancelledIn(5), 1);
        due("6 hours, one has a place taken", x.cancelledIn(6), 3);
        due("900 hours", x.cancelledIn(900), 3);
        due("901 hours", x.cancelledIn(901), 4);
        due("1000 hours", x.cancelledIn(1000), 4);
        x.cancel(0);
        due("without a cancelled one", x.cancelledIn(6), 2);
        x.pass(5);
        due("from now on", x.cancelledIn(1), 2);
        x.giveUp(0, 2);
        x.give(0, 1, 0);
        due("one has all its places taken", x.cancelledIn(1), 1);
        due("nothing passes", x.count(0), 5);
        due("nothing is cancelled", x.count(4), 1);
        x.pass(1);
        due("what comes of it", x.count(4), 2);
    }

    private static void freshest() {
        FerryCrews x = Check.withoutRests();
        due("no members", x.freshest(), -5);
        for (int n = 0; n < 3; n++) {
            x.member(0, 900);
        }
        due("the lowest of several", x.freshest(), 0);
        x.sailing(0, 10, 4, 1000);
        x.sailing(1, 30, 3, 1000);
        x.sailing(2, 50, 3, 1000);
        x.give(0, 0, 0);
        due("the lowest of those without duty", x.freshest(), 1);
        x.give(1, 1, 0);
        due("the one without duty", x.freshest(), 2);
        x.give(2, 2, 0);
        due("4 of 5, 4 and 4 hours", x.freshest(), 1);
        x.sailing(1, 33, 1, 1000);
        x.give(1, 3, 0);
        due("one hour more", x.freshest(), 2);
        x.pass(31);
        due("hours that are over count", x.freshest(), 2);
        x.cancel(3);
        due("those of a cancelled one do not", x.freshest(), 1);
        due("a cancelled one", x.sailingOf(3, 0), 2);
    }
}
