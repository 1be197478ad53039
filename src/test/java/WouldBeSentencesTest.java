/** Promises 30 to 36, sentence by sentence. */
public final class WouldBeSentencesTest extends Sentences {
    private static final int[] NO_MEMBERS = {-1, 4, 12, LEAST, GREATEST};
    private static final int[] NO_SAILINGS = {-1, 4, 48, LEAST, GREATEST};
    private static final int[] NO_ROLES = {-1, 4, LEAST, GREATEST};
    private static final int[] NO_SICKNESS = {0, -1, 401, LEAST, GREATEST};

    public static void main(String[] args) {
        begin("WouldBeSentencesTest", 30, 36);
        why();
        able();
        ifSick();
        weakest();
        atRisk();
        cancelledIn();
        freshest();
        end();
    }

    /** As harbour(), and two sailings more of the hours 10 to 13, so that each reason can be met. */
    private static FerryCrews reasons() {
        FerryCrews x = harbour();
        x.sailing(4, 10, 4, 1010);
        x.sailing(5, 13, 1, 1000);
        return x;
    }

    /** 48 sailings of one place of the role 0 each, and 12 members of that role; rests ask for nothing. */
    private static FerryCrews fleet() {
        FerryCrews x = plain();
        members(x, 12, 0);
        for (int n = 0; n < 48; n++) {
            x.sailing(5, 104 - 2 * n, 2, 1000);
        }
        return x;
    }

    private static void why() {
        promise(30);
        says("Tells why a member cannot take a place", () -> {
            int[][] asked = {{1, 2, 0, 0}, {0, 0, 0, 1}, {0, 1, 0, 1}, {0, 3, 0, 2}, {0, 3, 2, 2}, {2, 2, 0, 3}, {3, 4, 2, 4},
                {0, 2, 0, 5}, {0, 2, 1, 5}, {0, 5, 0, 6}};
            for (int[] one : asked) {
                String call = "why(" + one[0] + ", " + one[1] + ", " + one[2] + ")";
                unchanged(call, WouldBeSentencesTest::reasons, x -> x.why(one[0], one[1], one[2]), one[3]);
                due("as give() answers", reasons().give(one[0], one[1], one[2]), one[3]);
            }
        });
        says("`member`: a member", () -> {
            FerryCrews x = fleet();
            x.sick(11, 106);
            due("the first", x.why(0, 0, 0), 0);
            due("the last", x.why(11, 0, 0), 4);
        });
        says("`sailing`: a sailing", () -> {
            FerryCrews x = fleet();
            x.give(0, 47, 0);
            due("the first", x.why(0, 0, 0), 0);
            due("the last", x.why(0, 47, 0), 2);
        });
        says("`role`: 0 to 3", () -> {
            FerryCrews x = plain();
            x.member(0, 900);
            x.certify(0, 3, 900);
            x.sailing(0, 10, 4, 1011);
            int[] told = {0, 2, 3, 0};
            for (int role = 0; role <= 3; role++) {
                due("role " + role, x.why(0, 0, role), told[role]);
            }
        });
        says("Returns 0 if it can", () -> {
            FerryCrews x = harbour();
            due("it can", x.why(1, 2, 0), 0);
            due("it does", x.give(1, 2, 0), 0);
            due("not twice", x.why(1, 2, 0), 2);
        });
        says("otherwise the reason 1 to 6", () -> {
            FerryCrews x = reasons();
            due("1", x.why(2, 1, 1), 1);
            due("2", x.why(2, 3, 1), 2);
            due("3", x.why(1, 2, 1), 3);
            due("4", x.why(3, 4, 2), 4);
            due("5", x.why(0, 2, 1), 5);
            due("6", x.why(0, 5, 0), 6);
        });
        says("UNKNOWN (member, sailing or role)", () -> {
            for (int member : NO_MEMBERS) {
                unchanged("member " + member, Sentences::harbour, x -> x.why(member, 2, 0), UNKNOWN);
                due("ahead of the reason", harbour().why(member, 0, 0), UNKNOWN);
            }
            for (int sailing : NO_SAILINGS) {
                unchanged("sailing " + sailing, Sentences::harbour, x -> x.why(1, sailing, 0), UNKNOWN);
            }
            for (int role : NO_ROLES) {
                unchanged("role " + role, Sentences::harbour, x -> x.why(1, 2, role), UNKNOWN);
                due("ahead of the reason", harbour().why(1, 0, role), UNKNOWN);
            }
        });
    }

    private static void able() {
        promise(31);
        says("Tells who can take a place", () -> {
            unchanged("of an open sailing", Sentences::harbour, x -> x.able(2, 0), 0b0010);
            unchanged("of its other role", Sentences::harbour, x -> x.able(2, 1), 0b0100);
            FerryCrews x = harbour();
            due("of one that sailed", x.able(0, 0), 0);
            due("of a cancelled one", x.able(1, 0), 0);
            due("all places taken", x.able(3, 0), 0);
            due("no places", x.able(2, 2), 0);
            x.giveUp(1, 3);
            due("0 and 1", x.able(3, 0), 0b0011);
            x.leave(1, 0);
            due("also off the ladder", x.able(3, 0), 0b0011);
            x.certify(1, 0, 34);
            due("not with a certificate that ends too early", x.able(3, 0), 0b0001);
            x.sick(0, 26);
            due("nobody who is sick", x.able(3, 0), 0);
            x.sick(0, 25);
            duty(x, 0, 4, 34, 2);
            due("nobody whose rests would not hold", x.able(3, 0), 0);
        });
        says("`sailing`: a sailing", () -> {
            FerryCrews x = fleet();
            x.give(0, 0, 0);
            due("the first", x.able(0, 0), 0);
            due("the last", x.able(47, 0), 0xfff);
        });
        says("`role`: 0 to 3", () -> {
            FerryCrews x = plain();
            x.sailing(0, 10, 4, 1111);
            for (int role = 0; role <= 3; role++) {
                x.member(3 - role, 14);
                due("role " + (3 - role), x.able(0, 3 - role), 1 << role);
            }
        });
        says("Returns the members as a set, as bits", () -> {
            FerryCrews x = plain();
            x.sailing(0, 10, 4, 1000);
            due("without members", x.able(0, 0), 0);
            for (int n = 0; n < 12; n++) {
                x.member(0, 900);
                due("members 0 to " + n, x.able(0, 0), (2 << n) - 1);
            }
            x.sick(0, 400);
            due("without the first", x.able(0, 0), 0xffe);
            x.sick(11, 400);
            x.sick(5, 400);
            due("without three", x.able(0, 0), 0x7de);
        });
        says("UNKNOWN (sailing or role)", () -> {
            for (int sailing : NO_SAILINGS) {
                unchanged("sailing " + sailing, Sentences::harbour, x -> x.able(sailing, 0), UNKNOWN);
            }
            for (int role : NO_ROLES) {
                unchanged("role " + role, Sentences::harbour, x -> x.able(2, role), UNKNOWN);
            }
        });
    }

    /** Member 0 has five places, of which 1 can cover two in the first 41 hours; the same as sick() is asked for. */
    private static FerryCrews worked() {
        FerryCrews x = plain();
        members(x, 2, 0);
        for (int n = 0; n < 5; n++) {
            duty(x, 0, 0, 10 * n + 10, 2);
        }
        duty(x, 1, 1, 21, 2);
        duty(x, 1, 1, 30, 2);
        clearHistory(x);
        return x;
    }

    private static void ifSick() {
        promise(32);
        says("Tells how many places would stay free if a member was sick, as sick() tells it", () -> {
            int[] hours = {1, 10, 11, 20, 21, 22, 30, 31, 40, 41, 50, 51, 400};
            int[] of0 = {0, 0, 0, 0, 1, 1, 1, 2, 2, 2, 2, 2, 2};
            int[] of1 = {0, 0, 0, 0, 0, 1, 1, 2, 2, 2, 2, 2, 2};
            for (int n = 0; n < hours.length; n++) {
                int told = hours[n];
                unchanged("ifSick(0, " + told + ")", WouldBeSentencesTest::worked, x -> x.ifSick(0, told), of0[n]);
                due("sick(0, " + told + ")", worked().sick(0, told), of0[n]);
                unchanged("ifSick(1, " + told + ")", WouldBeSentencesTest::worked, x -> x.ifSick(1, told), of1[n]);
                due("sick(1, " + told + ")", worked().sick(1, told), of1[n]);
            }
            FerryCrews x = worked();
            x.sick(1, 12);
            due("1 is sick for the first", x.ifSick(0, 11), 1);
            x.pass(10);
            due("from the hour of now on", x.ifSick(0, 10), 1);
            due("an hour more", x.ifSick(0, 11), 2);
        });
        says("`member`: a member", () -> {
            FerryCrews x = fleet();
            x.give(0, 0, 0);
            x.give(11, 47, 0);
            for (int n = 1; n < 11; n++) {
                x.leave(n, 0);
            }
            due("the first", x.ifSick(0, 105), 0);
            due("the last", x.ifSick(11, 105), 0);
            x.leave(11, 0);
            x.leave(0, 0);
            due("the first, not covered", x.ifSick(0, 105), 1);
            due("the last, not covered", x.ifSick(11, 105), 1);
        });
        says("`hours`: 1 to 400", () -> {
            FerryCrews x = plain();
            members(x, 1, 0);
            duty(x, 0, 0, 0, 1);
            duty(x, 0, 1, 399, 1);
            duty(x, 0, 2, 400, 1);
            due("1", x.ifSick(0, 1), 1);
            due("399", x.ifSick(0, 399), 1);
            due("400", x.ifSick(0, 400), 2);
        });
        says("Returns how many", () -> {
            due("none", harbour().ifSick(0, 400), 0);
            due("one", harbour().ifSick(1, 400), 0);
            due("not covered", harbour().ifSick(2, 400), 1);
            due("no places", harbour().ifSick(3, 400), 0);
        });
        says("UNKNOWN", () -> {
            for (int member : NO_MEMBERS) {
                unchanged("member " + member, Sentences::harbour, x -> x.ifSick(member, 5), UNKNOWN);
                due("ahead of BAD_VALUE", harbour().ifSick(member, 0), UNKNOWN);
            }
        });
        says("BAD_VALUE", () -> {
            for (int hours : NO_SICKNESS) {
                unchanged("hours " + hours, Sentences::harbour, x -> x.ifSick(0, hours), BAD_VALUE);
            }
        });
    }

    private static void weakest() {
        promise(33);
        says("Finds the member whose being sick for some hours would leave the most places free, of several the lowest", () -> {
            unchanged("2 alone cannot be covered", Sentences::harbour, x -> x.weakest(400), 2);
            unchanged("nobody in these hours", Sentences::harbour, x -> x.weakest(1), 0);
            FerryCrews x = worked();
            due("0: 1 of 2, 1: none of 1", x.weakest(21), 0);
            due("as many", x.weakest(22), 0);
            x.leave(1, 0);
            due("0 is not covered", x.weakest(11), 0);
            x.climb(1, 0);
            x.leave(0, 0);
            due("one of each is not covered", x.weakest(23), 0);
            x.giveUp(0, 1);
            due("1 is not covered, 0 is", x.weakest(23), 1);
            FerryCrews y = fleet();
            for (int n = 0; n < 12; n++) {
                y.leave(n, 0);
            }
            y.give(11, 0, 0);
            due("the last", y.weakest(105), 11);
            y.give(4, 1, 0);
            due("of several the lowest", y.weakest(105), 4);
            due("nobody", y.weakest(102), 0);
        });
        says("`hours`: 1 to 400", () -> {
            FerryCrews x = plain();
            members(x, 3, 0);
            for (int n = 0; n < 3; n++) {
                x.leave(n, 0);
            }
            duty(x, 1, 0, 399, 1);
            due("399", x.weakest(399), 0);
            due("400", x.weakest(400), 1);
            duty(x, 2, 1, 0, 1);
            due("1", x.weakest(1), 2);
        });
        says("Returns the member", () -> {
            FerryCrews x = new FerryCrews();
            x.member(0, 5);
            due("the only one", x.weakest(5), 0);
        });
        says("BAD_VALUE", () -> {
            for (int hours : NO_SICKNESS) {
                unchanged("hours " + hours, Sentences::harbour, x -> x.weakest(hours), BAD_VALUE);
                due("ahead of NONE", new FerryCrews().weakest(hours), BAD_VALUE);
            }
        });
        says("NONE if there are no members", () -> {
            unchanged("no members", FerryCrews::new, x -> x.weakest(400), NONE);
            FerryCrews x = new FerryCrews();
            x.member(0, 5);
            x.undo();
            due("one that was undone", x.weakest(1), NONE);
        });
    }

    private static void atRisk() {
        promise(34);
        says("Finds the first open sailing, by start, of several by number, that has a free place", () -> {
            unchanged("the first has two", Sentences::harbour, x -> x.atRisk(), 2);
            FerryCrews x = harbour();
            x.fill(2);
            x.giveUp(2, 3);
            due("one of two", x.atRisk(), 3);
            x.sailing(5, 29, 4, 1);
            due("an earlier one that came later", x.atRisk(), 4);
            x.sailing(4, 29, 4, 1);
            due("of several by number", x.atRisk(), 4);
            x.cancel(4);
            due("no cancelled one", x.atRisk(), 5);
            x.pass(25);
            due("no one that did not sail", x.atRisk(), 3);
            FerryCrews y = fleet();
            due("the last that came", y.atRisk(), 47);
            y.fill(47);
            due("the one before", y.atRisk(), 46);
        });
        says("Returns the sailing", () -> {
            FerryCrews x = new FerryCrews();
            x.sailing(3, 900, 12, 1000);
            due("0", x.atRisk(), 0);
        });
        says("NONE if there is none", () -> {
            unchanged("no sailings", FerryCrews::new, x -> x.atRisk(), NONE);
            unchanged("a whole crew", SailingsSentencesTest::wholeCrew, x -> x.atRisk(), NONE);
            FerryCrews x = new FerryCrews();
            x.sailing(3, 0, 12, 1000);
            x.pass(1);
            due("it is not open", x.atRisk(), NONE);
        });
    }

    private static void cancelledIn() {
        promise(35);
        says("Tells how many sailings would be cancelled in the next hours, if nothing else is done", () -> {
            unchanged("up to its start", Sentences::harbour, x -> x.cancelledIn(5), 0);
            unchanged("in the hour of its start", Sentences::harbour, x -> x.cancelledIn(6), 1);
            FerryCrews x = harbour();
            x.giveUp(2, 3);
            due("the second", x.cancelledIn(26), 2);
            due("up to the second", x.cancelledIn(25), 1);
            x.sailing(4, 5, 1, 1000);
            due("one that starts now", x.cancelledIn(1), 1);
            x.cancel(4);
            due("not one that is cancelled", x.cancelledIn(1), 0);
            int told = x.cancelledIn(26);
            int before = x.count(4);
            x.pass(26);
            due("so many then", x.count(4) - before, told);
            due("in the rest of the time", x.cancelledIn(1000), 0);
            due("all of a fleet", fleet().cancelledIn(105), 48);
        });
        says("`hours`: 1 to 1000", () -> {
            FerryCrews x = plain();
            x.sailing(0, 0, 1, 1000);
            x.sailing(0, 900, 1, 1000);
            due("1", x.cancelledIn(1), 1);
            due("900", x.cancelledIn(900), 1);
            due("901", x.cancelledIn(901), 2);
            due("1000", x.cancelledIn(1000), 2);
            x.pass(100);
            due("1000, which is more than can pass", x.cancelledIn(1000), 1);
        });
        says("Returns how many", () -> {
            due("none", new FerryCrews().cancelledIn(1000), 0);
            due("one", harbour().cancelledIn(1000), 1);
            due("none of a whole crew", SailingsSentencesTest.wholeCrew().cancelledIn(1000), 0);
        });
        says("BAD_VALUE", () -> {
            for (int hours : new int[] {0, -1, 1001, LEAST, GREATEST}) {
                unchanged("hours " + hours, Sentences::harbour, x -> x.cancelledIn(hours), BAD_VALUE);
            }
        });
    }

    private static void freshest() {
        promise(36);
        says("Finds the member with the fewest hours of duty of all its places, of several the lowest", () -> {
            unchanged("3 has none", Sentences::harbour, x -> x.freshest(), 3);
            FerryCrews x = harbour();
            x.sick(3, 1);
            x.sailing(5, 800, 12, 10);
            x.certify(3, 2, 900);
            x.give(3, 4, 2);
            due("1 and 2 have 6 hours", x.freshest(), 1);
            duty(x, 1, 4, 50, 1);
            due("2 has 6, 1 has 8", x.freshest(), 2);
            x.giveUp(3, 4);
            due("3 has none again", x.freshest(), 3);
            FerryCrews y = plain();
            members(y, 12, 0);
            for (int n = 0; n < 11; n++) {
                due("of several the lowest", y.freshest(), n);
                duty(y, n, 0, 20 * n, 2);
            }
            due("the last", y.freshest(), 11);
            duty(y, 11, 0, 300, 2);
            due("all have 2", y.freshest(), 0);
            y.pass(1);
            due("one that sailed counts", y.freshest(), 0);
            y.cancel(7);
            due("one that is cancelled does not", y.freshest(), 7);
        });
        says("Returns the member", () -> {
            FerryCrews x = plain();
            members(x, 1, 0);
            duty(x, 0, 0, 0, 12);
            due("the only one", x.freshest(), 0);
        });
        says("NONE if there are no members", () -> {
            unchanged("no members", FerryCrews::new, x -> x.freshest(), NONE);
            FerryCrews x = new FerryCrews();
            x.member(0, 5);
            due("one", x.freshest(), 0);
            x.undo();
            due("one that was undone", x.freshest(), NONE);
        });
    }
}
