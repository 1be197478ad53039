/** Promises 11 to 15, sentence by sentence. */
public final class PlacesSentencesTest extends Sentences {
    private static final int[] NO_MEMBERS = {-1, 4, 12, LEAST, GREATEST};
    private static final int[] NO_SAILINGS = {-1, 4, 48, LEAST, GREATEST};
    private static final int[] NO_ROLES = {-1, 4, LEAST, GREATEST};

    public static void main(String[] args) {
        begin("PlacesSentencesTest", 11, 15);
        give();
        giveUp();
        fill();
        pass();
        set();
        setErrors();
        end();
    }

    /** 48 sailings of one place of the role 0 each, and 12 members of that role; rests ask for nothing. */
    private static FerryCrews fleet() {
        FerryCrews x = plain();
        members(x, 12, 0);
        for (int n = 0; n < 48; n++) {
            x.sailing(5, 10 + 2 * n, 2, 1000);
        }
        return x;
    }

    /** A harbour where each reason can be met: 4 and 5 are sailings of the hours 10 to 13. */
    private static FerryCrews reasons() {
        FerryCrews x = harbour();
        x.sailing(4, 10, 4, 1010);
        x.sailing(5, 13, 1, 1000);
        return x;
    }

    private static void give() {
        promise(11);
        says("Gives a member a place", () -> {
            FerryCrews x = harbour();
            x.give(2, 2, 1);
            due("it has it", x.crew(2, 1, 0), 2);
            due("of the role", x.crew(2, 1, 1), 1);
            due("one less is free", x.sailingOf(2, 6), 1);
            due("its places", x.memberOf(2, 5), 2);
            due("its next sailing", x.memberOf(2, 9), 2);
            due("no cover", x.memberOf(2, 8), 0);
            FerryCrews y = SailingsSentencesTest.wholeCrew();
            due("all are taken", y.sailingOf(0, 6), 0);
            due("by the last too", y.crew(0, 11, 0), 11);
        });
        says("This is an act, if it is given", () -> {
            act("given", Sentences::harbour, x -> x.give(2, 2, 1), 0);
            FerryCrews x = harbour();
            x.give(2, 2, 0);
            due("not given, not recorded", x.count(11), 2);
            act("by the last member", PlacesSentencesTest::withAPlaceForTheLast, y -> y.give(11, 0, 3), 0);
        });
        says("`member`: a member", () -> {
            FerryCrews x = fleet();
            due("the first", x.give(0, 0, 0), 0);
            due("the last", x.give(11, 1, 0), 0);
            due("it is the last", x.crew(1, 0, 0), 11);
        });
        says("`sailing`: a sailing", () -> {
            FerryCrews x = fleet();
            due("the first", x.give(3, 0, 0), 0);
            due("the last", x.give(3, 47, 0), 0);
            due("of the first", x.crew(0, 0, 0), 3);
            due("of the last", x.crew(47, 0, 0), 3);
            due("of both", x.memberOf(3, 5), 2);
        });
        says("`role`: 0 to 3", () -> {
            FerryCrews x = plain();
            x.sailing(0, 10, 4, 1111);
            for (int role = 0; role <= 3; role++) {
                x.member(role, 14);
                due("role " + role, x.give(role, 0, role), 0);
                due("told", x.crew(0, role, 1), role);
            }
        });
        says("Returns 0, or the reason 1 to 6 for which it cannot take it (then nothing changes)", () -> {
            due("0", reasons().give(1, 2, 0), 0);
            unchanged("1, sailed", PlacesSentencesTest::reasons, x -> x.give(1, 0, 0), 1);
            unchanged("1, cancelled", PlacesSentencesTest::reasons, x -> x.give(1, 1, 0), 1);
            unchanged("2", PlacesSentencesTest::reasons, x -> x.give(0, 3, 0), 2);
            unchanged("2, of none", PlacesSentencesTest::reasons, x -> x.give(0, 3, 2), 2);
            unchanged("3", PlacesSentencesTest::reasons, x -> x.give(2, 2, 0), 3);
            unchanged("4", PlacesSentencesTest::reasons, x -> x.give(3, 4, 2), 4);
            unchanged("5", PlacesSentencesTest::reasons, x -> x.give(0, 2, 0), 5);
            unchanged("5, of another role", PlacesSentencesTest::reasons, x -> x.give(0, 2, 1), 5);
            unchanged("6", PlacesSentencesTest::reasons, x -> x.give(0, 5, 0), 6);
        });
        says("UNKNOWN (member, sailing or role)", () -> {
            for (int member : NO_MEMBERS) {
                unchanged("member " + member, Sentences::harbour, x -> x.give(member, 2, 0), UNKNOWN);
                due("ahead of the reason", harbour().give(member, 0, 0), UNKNOWN);
            }
            for (int sailing : NO_SAILINGS) {
                unchanged("sailing " + sailing, Sentences::harbour, x -> x.give(1, sailing, 0), UNKNOWN);
            }
            for (int role : NO_ROLES) {
                unchanged("role " + role, Sentences::harbour, x -> x.give(1, 2, role), UNKNOWN);
                due("ahead of the reason", harbour().give(1, 0, role), UNKNOWN);
            }
            due("behind the last", fleet().give(12, 0, 0), UNKNOWN);
            due("behind the last sailing", fleet().give(0, 48, 0), UNKNOWN);
        });
    }

    /** All have a place but member 11. */
    private static FerryCrews withAPlaceForTheLast() {
        FerryCrews x = SailingsSentencesTest.wholeCrew();
        x.giveUp(11, 0);
        return x;
    }

    private static void giveUp() {
        promise(12);
        says("Lets a member give its place up", () -> {
            FerryCrews x = harbour();
            x.giveUp(1, 3);
            due("the place is free", x.sailingOf(3, 6), 1);
            due("the other stays", x.crew(3, 0, 0), 2);
            due("its places", x.memberOf(1, 5), 0);
            due("its hours", x.memberOf(1, 7), 0);
            due("it is not covered", x.count(9), 0);
            due("it can take it again", x.give(1, 3, 0), 0);
        });
        says("This is an act", () -> {
            act("giveUp", Sentences::harbour, x -> x.giveUp(1, 3), 0);
            act("of a whole crew", SailingsSentencesTest::wholeCrew, x -> x.giveUp(11, 0), 3);
        });
        says("`member`: a member", () -> {
            FerryCrews x = SailingsSentencesTest.wholeCrew();
            due("the first", x.giveUp(0, 0), 0);
            due("the last", x.giveUp(11, 0), 3);
            due("two are free", x.sailingOf(0, 6), 2);
        });
        says("`sailing`: a sailing", () -> {
            FerryCrews x = fleet();
            x.give(0, 0, 0);
            x.give(0, 47, 0);
            due("the last", x.giveUp(0, 47), 0);
            due("the first stays", x.sailingOf(0, 6), 0);
            due("the first", x.giveUp(0, 0), 0);
        });
        says("Returns the role", () -> {
            FerryCrews x = SailingsSentencesTest.wholeCrew();
            for (int role = 0; role <= 3; role++) {
                due("role " + role, x.giveUp(3 * role, 0), role);
                due("of another member", x.giveUp(3 * role + 2, 0), role);
            }
        });
        says("UNKNOWN (member or sailing)", () -> {
            for (int member : NO_MEMBERS) {
                unchanged("member " + member, Sentences::harbour, x -> x.giveUp(member, 2), UNKNOWN);
                due("ahead of NOT_POSSIBLE", harbour().giveUp(member, 0), UNKNOWN);
            }
            for (int sailing : NO_SAILINGS) {
                unchanged("sailing " + sailing, Sentences::harbour, x -> x.giveUp(0, sailing), UNKNOWN);
            }
        });
        says("NOT_POSSIBLE if the sailing is not open", () -> {
            unchanged("sailed", Sentences::harbour, x -> x.giveUp(0, 0), NOT_POSSIBLE);
            unchanged("sailed, it has no place", Sentences::harbour, x -> x.giveUp(1, 0), NOT_POSSIBLE);
            unchanged("cancelled", Sentences::harbour, x -> x.giveUp(0, 1), NOT_POSSIBLE);
            FerryCrews x = harbour();
            x.cancel(2);
            due("it had a place", x.giveUp(0, 2), NOT_POSSIBLE);
        });
        says("NONE if it has no place on it", () -> {
            unchanged("another has", Sentences::harbour, x -> x.giveUp(1, 2), NONE);
            FerryCrews x = harbour();
            x.giveUp(0, 2);
            due("it gave it up", x.giveUp(0, 2), NONE);
        });
    }

    private static void fill() {
        promise(13);
        says("Covers all free places of a sailing, by roles", () -> {
            FerryCrews x = plain();
            members(x, 3, 1);
            x.certify(1, 0, 900);
            x.climb(1, 0);
            x.sailing(0, 10, 4, 1200);
            x.fill(0);
            due("role 0 comes first", x.crew(0, 0, 0), 1);
            due("then role 1", x.crew(0, 1, 0), 0);
            due("another of role 1", x.crew(0, 2, 0), 2);
            due("covers of 1", x.memberOf(1, 8), 1);
            due("covers", x.count(9), 3);
            FerryCrews y = SailingsSentencesTest.wholeCrew();
            y.sailing(1, 20, 4, 3333);
            y.give(4, 1, 1);
            due("twelve places, one is taken", y.fill(1), 0);
            due("eleven covers", y.count(9), 11);
            for (int n = 0; n < 12; n++) {
                due("member of rank " + n, y.crew(1, n, 0), n);
                due("its role", y.crew(1, n, 1), n / 3);
            }
        });
        says("This is an act, also if none is covered", () -> {
            act("all are covered", Sentences::harbour, x -> x.fill(2), 0);
            act("none is covered", PlacesSentencesTest::nobodyCovers, x -> x.fill(2), 2);
        });
        says("`sailing`: a sailing", () -> {
            FerryCrews x = fleet();
            due("the first", x.fill(0), 0);
            due("the last", x.fill(47), 0);
            due("of the first", x.crew(0, 0, 0), 0);
            due("of the last", x.crew(47, 0, 0), 0);
        });
        says("Returns how many stay free", () -> {
            due("none", harbour().fill(2), 0);
            due("two", nobodyCovers().fill(2), 2);
            FerryCrews x = harbour();
            x.leave(2, 1);
            due("one", x.fill(2), 1);
            due("and again", x.fill(2), 1);
            FerryCrews y = plain();
            y.sailing(0, 10, 4, 3333);
            due("twelve", y.fill(0), 12);
        });
        says("UNKNOWN", () -> {
            for (int sailing : NO_SAILINGS) {
                unchanged("sailing " + sailing, Sentences::harbour, x -> x.fill(sailing), UNKNOWN);
            }
            due("without sailings", new FerryCrews().fill(0), UNKNOWN);
        });
        says("NOT_POSSIBLE if it is not open", () -> {
            unchanged("sailed, none is free", Sentences::harbour, x -> x.fill(0), NOT_POSSIBLE);
            unchanged("cancelled, all are free", Sentences::harbour, x -> x.fill(1), NOT_POSSIBLE);
            FerryCrews x = harbour();
            x.cancel(2);
            due("cancelled by a call", x.fill(2), NOT_POSSIBLE);
        });
        says("NONE if none is free", () -> {
            unchanged("none", Sentences::harbour, x -> x.fill(3), NONE);
            unchanged("none of twelve", SailingsSentencesTest::wholeCrew, x -> x.fill(0), NONE);
            FerryCrews x = harbour();
            x.fill(2);
            due("all were covered", x.fill(2), NONE);
        });
    }

    private static FerryCrews nobodyCovers() {
        FerryCrews x = harbour();
        x.leave(1, 0);
        x.leave(2, 1);
        clearHistory(x);
        return x;
    }

    private static void pass() {
        promise(14);
        says("Lets hours pass", () -> {
            FerryCrews x = plain();
            members(x, 4, 0);
            for (int n = 0; n < 4; n++) {
                duty(x, n, n, 10 + n, 2);
                x.sailing(4, 10 + 3 * n, 2, 1000);
            }
            x.pass(10);
            due("none starts", x.count(2), 8);
            x.pass(3);
            int[] told = {1, 2, 1, 0, 1, 0, 0, 0};
            for (int n = 0; n < 8; n++) {
                due("sailing " + n, x.sailingOf(n, 0), told[n]);
            }
            x.pass(200);
            due("all that had their set", x.count(3), 4);
            due("all that had not", x.count(4), 4);
        });
        says("This is an act", () -> {
            act("one hour", Sentences::harbour, x -> x.pass(1), 6);
            act("one sails, one does not", Sentences::harbour, x -> x.pass(26), 31);
            act("of a whole crew", SailingsSentencesTest::wholeCrew, x -> x.pass(11), 11);
        });
        says("`hours`: 1 to 200", () -> {
            FerryCrews x = new FerryCrews();
            due("1", x.pass(1), 1);
            due("200", x.pass(200), 201);
        });
        says("Returns the hour of now then", () -> {
            FerryCrews x = new FerryCrews();
            due("7", x.pass(7), 7);
            due("12", x.pass(5), 12);
            due("told", x.count(0), 12);
        });
        says("BAD_VALUE", () -> {
            for (int hours : new int[] {0, -1, 201, LEAST, GREATEST}) {
                unchanged("hours " + hours, Sentences::harbour, x -> x.pass(hours), BAD_VALUE);
                due("ahead of FULL", late(1000).pass(hours), BAD_VALUE);
            }
        });
        says("FULL if it would be more than 1000", () -> {
            due("1000", late(999).pass(1), 1000);
            due("1000 by 200 hours", late(800).pass(200), 1000);
            unchanged("1001", () -> late(1000), x -> x.pass(1), FULL);
            unchanged("1001 by 200 hours", () -> late(801), x -> x.pass(200), FULL);
        });
    }

    private static FerryCrews late(int now) {
        FerryCrews x = harbour();
        while (x.count(0) < now) {
            x.pass(Math.min(200, now - x.count(0)));
        }
        return x;
    }

    private static void set() {
        promise(15);
        says("Sets a setting", () -> {
            FerryCrews x = new FerryCrews();
            int[] values = {11, 7, 78, 0, 49};
            for (int which = 0; which < 5; which++) {
                x.set(which, values[which]);
                for (int other = 0; other < 5; other++) {
                    int first = new int[] {10, 6, 77, 1, 48}[other];
                    due("setting " + other, x.count(13 + other), other <= which ? values[other] : first);
                }
            }
        });
        says("This is an act", () -> {
            act("a rest", Sentences::harbour, x -> x.set(0, 15), 0);
            act("the handover", Sentences::harbour, x -> x.set(3, 0), 1);
            act("the hours of a week", Sentences::harbour, x -> x.set(4, 0), 48);
        });
        says("`which`: 0 to 4", () -> {
            FerryCrews x = new FerryCrews();
            int[] first = {10, 6, 77, 1, 48};
            for (int which = 0; which <= 4; which++) {
                due("setting " + which, x.set(which, 0), first[which]);
            }
        });
        says("`value`: in its range", () -> {
            int[] highest = {20, 12, 140, 1, 100};
            for (int which = 0; which < 5; which++) {
                FerryCrews x = new FerryCrews();
                due("the least of " + which, x.set(which, 0) >= 0 ? 1 : 0, 1);
                due("the highest of " + which, x.set(which, highest[which]), 0);
                due("told", x.count(13 + which), highest[which]);
            }
        });
        says("Returns the previous one", () -> {
            FerryCrews x = new FerryCrews();
            due("the first", x.set(2, 100), 77);
            due("then", x.set(2, 0), 100);
            due("then", x.set(2, 140), 0);
        });
    }

    private static void setErrors() {
        says("BAD_VALUE (which or value)", () -> {
            for (int which : new int[] {-1, 5, LEAST, GREATEST}) {
                unchanged("setting " + which, Sentences::harbour, x -> x.set(which, 1), BAD_VALUE);
            }
            int[] highest = {20, 12, 140, 1, 100};
            for (int which = 0; which < 5; which++) {
                int setting = which;
                for (int value : new int[] {-1, highest[which] + 1, LEAST, GREATEST}) {
                    String call = "setting " + which + " to " + value;
                    unchanged(call, Sentences::harbour, x -> x.set(setting, value), BAD_VALUE);
                }
            }
        });
        says("NONE if it is so already", () -> {
            int[] settings = {0, 0, 0, 1, 48};
            for (int which = 0; which < 5; which++) {
                int setting = which;
                unchanged("setting " + which, Sentences::harbour, x -> x.set(setting, settings[setting]), NONE);
            }
            FerryCrews x = new FerryCrews();
            x.set(0, 20);
            due("the highest", x.set(0, 20), NONE);
        });
        says("NOT_POSSIBLE if the rests of a member would not hold then", () -> {
            unchanged("a row of a day", PlacesSentencesTest::worked, x -> x.set(0, 13), NOT_POSSIBLE);
            due("just as many", worked().set(0, 12), 0);
            unchanged("a long rest", PlacesSentencesTest::worked, x -> x.set(1, 7), NOT_POSSIBLE);
            due("just as long", worked().set(1, 6), 0);
            unchanged("a row of a week", PlacesSentencesTest::worked, x -> x.set(2, 139), NOT_POSSIBLE);
            due("just as many of a week", worked().set(2, 138), 0);
            unchanged("a handover in a duty", PlacesSentencesTest::worked, x -> x.set(3, 1), NOT_POSSIBLE);
            due("the hours of a week do not matter", worked().set(4, 0), 48);
            FerryCrews x = worked();
            x.giveUp(11, 1);
            due("the handover has an hour then", x.set(3, 1), 0);
            due("13 hours in the row from 9", x.set(0, 12), NOT_POSSIBLE);
            due("just as many rests", x.set(0, 11), 0);
            FerryCrews y = worked();
            y.giveUp(11, 1);
            y.set(0, 12);
            due("a handover more in the row from 59", y.set(3, 1), NOT_POSSIBLE);
            for (int member = 0; member < 12; member++) {
                FerryCrews one = plain();
                members(one, 12, 0);
                duty(one, member, 0, 10, 12);
                due("of one member alone", one.set(0, 13), NOT_POSSIBLE);
                due("just as many", one.set(0, 12), 0);
            }
            FerryCrews z = worked();
            z.pass(11);
            due("one that sailed", z.sailingOf(0, 0), 1);
            due("counts too", z.set(0, 13), NOT_POSSIBLE);
        });
    }

    /**
     * Without handovers: member 11 alone has duties, from 10 to 15, from 15 to 16, from 22 to 28,
     * and from 60 to 72 and 120 to 126: 12 of the row from 10, 30 of the first week, with 6 hours between.
     */
    private static FerryCrews worked() {
        FerryCrews x = plain();
        members(x, 12, 0);
        duty(x, 11, 0, 10, 5);
        duty(x, 11, 1, 15, 1);
        duty(x, 11, 2, 22, 6);
        duty(x, 11, 0, 60, 12);
        duty(x, 11, 0, 120, 6);
        clearHistory(x);
        return x;
    }
}
