/** Promises 22 to 29, sentence by sentence. */
public final class ToldSentencesTest extends Sentences {
    private static final int[] NO_MEMBERS = {-1, 4, 12, LEAST, GREATEST};
    private static final int[] NO_SAILINGS = {-1, 4, 48, LEAST, GREATEST};
    private static final int[] NO_ROLES = {-1, 4, LEAST, GREATEST};
    private static final int[][] SAILINGS = {{1, 0, 0, 4, 1000, 1, 0}, {2, 1, 2, 6, 1000, 1, 1}, {0, 0, 10, 14, 2100, 3, 2},
        {0, 2, 30, 35, 1100, 2, 0}};
    private static final int[][] MEMBERS = {{900, 900, 0, 0, NONE, 1, 1, 9, 0, 2}, {900, 0, 0, 0, NONE, 1, 0, 6, 0, 3},
        {0, 900, 0, 0, NONE, 1, 0, 6, 0, 3}, {0, 0, 30, 0, 11, 0, 0, 0, 0, NONE}};

    public static void main(String[] args) {
        begin("ToldSentencesTest", 22, 29);
        sailingOf();
        crew();
        memberOf();
        memberOfWhat();
        ladder();
        rest();
        leastRest();
        overtime();
        count();
        end();
    }

    /** 48 sailings of two hours each, the last one at the hour 10; member 11 of 12 has a place on the last. */
    private static FerryCrews fleet() {
        FerryCrews x = plain();
        for (int n = 0; n < 48; n++) {
            x.sailing(5, 104 - 2 * n, 2, 1000);
        }
        members(x, 12, 0);
        x.give(11, 47, 0);
        return x;
    }

    private static void sailingOf() {
        promise(22);
        says("`sailing`: a sailing", () -> {
            FerryCrews x = fleet();
            due("the first", x.sailingOf(0, 2), 104);
            due("the last", x.sailingOf(47, 2), 10);
            due("one of them", x.sailingOf(40, 2), 24);
        });
        says("`what`: 0 for how it is, 1 for its ferry, 2 for its start, 3 for its end, 4 for its set, 5 for its places, how "
            + "many, 6 for those that are free (all of them, if it is cancelled)", () -> {
                FerryCrews x = harbour();
                for (int n = 0; n < SAILINGS.length; n++) {
                    for (int what = 0; what < 7; what++) {
                        due("sailingOf(" + n + ", " + what + ")", x.sailingOf(n, what), SAILINGS[n][what]);
                    }
                }
                FerryCrews y = SailingsSentencesTest.wholeCrew();
                due("twelve places", y.sailingOf(0, 5), 12);
                due("none free", y.sailingOf(0, 6), 0);
                y.giveUp(11, 0);
                due("one free", y.sailingOf(0, 6), 1);
                y.cancel(0);
                due("cancelled, all free", y.sailingOf(0, 6), 12);
            });
        says("Returns the number", () -> {
            FerryCrews x = new FerryCrews();
            x.sailing(5, 900, 12, 3333);
            int[] told = {0, 5, 900, 912, 3333, 12, 12};
            for (int what = 0; what < told.length; what++) {
                due("what " + what, x.sailingOf(0, what), told[what]);
            }
            x.sailing(0, 0, 1, 1);
            int[] least = {0, 0, 0, 1, 1, 1, 1};
            for (int what = 0; what < least.length; what++) {
                due("what " + what, x.sailingOf(1, what), least[what]);
            }
        });
        says("UNKNOWN", () -> {
            for (int sailing : NO_SAILINGS) {
                unchanged("sailing " + sailing, Sentences::harbour, x -> x.sailingOf(sailing, 0), UNKNOWN);
                due("ahead of BAD_VALUE", harbour().sailingOf(sailing, -1), UNKNOWN);
            }
            due("without sailings", new FerryCrews().sailingOf(0, 0), UNKNOWN);
            FerryCrews x = new FerryCrews();
            x.sailing(0, 1, 2, 1000);
            x.undo();
            due("it was undone", x.sailingOf(0, 0), UNKNOWN);
        });
        says("BAD_VALUE", () -> {
            for (int what : new int[] {-1, 7, LEAST, GREATEST}) {
                unchanged("what " + what, Sentences::harbour, x -> x.sailingOf(2, what), BAD_VALUE);
            }
        });
    }

    /** Roles against the order of members: 9, 10 and 11 have the role 0, 0 to 2 the role 3. */
    private static FerryCrews upsideDown() {
        FerryCrews x = withoutRests();
        x.sailing(0, 10, 4, 3333);
        for (int n = 0; n < 12; n++) {
            x.member(3 - n / 3, 900);
        }
        for (int n = 11; n >= 0; n--) {
            x.give(n, 0, 3 - n / 3);
        }
        return x;
    }

    private static void crew() {
        promise(23);
        says("Tells who has a place on a sailing", () -> {
            FerryCrews x = harbour();
            due("of one that sailed", x.crew(0, 0, 0), 0);
            due("of one that was cancelled", x.crew(1, 0, 0), NONE);
            due("of an open one", x.crew(2, 0, 0), 0);
            due("of another", x.crew(3, 0, 0), 1);
            due("and one more", x.crew(3, 1, 0), 2);
        });
        says("`sailing`: a sailing", () -> {
            FerryCrews x = fleet();
            x.give(3, 0, 0);
            due("the first", x.crew(0, 0, 0), 3);
            due("the last", x.crew(47, 0, 0), 11);
        });
        says("`rank`: from 0, by roles, of the same role by members", () -> {
            FerryCrews x = upsideDown();
            int[] members = {9, 10, 11, 6, 7, 8, 3, 4, 5, 0, 1, 2};
            for (int rank = 0; rank < 12; rank++) {
                due("rank " + rank, x.crew(0, rank, 0), members[rank]);
                due("its role", x.crew(0, rank, 1), rank / 3);
            }
            x.giveUp(10, 0);
            due("the next moves up", x.crew(0, 1, 0), 11);
            due("and the last", x.crew(0, 10, 0), 2);
        });
        says("`what`: 0 for the member, 1 for the role, 2 for the hour at which the duty begins", () -> {
            FerryCrews x = harbour();
            int[][] told = {{1, 0, 29}, {2, 1, 29}};
            for (int rank = 0; rank < 2; rank++) {
                for (int what = 0; what < 3; what++) {
                    due("crew(3, " + rank + ", " + what + ")", x.crew(3, rank, what), told[rank][what]);
                }
            }
            due("from the hour 0", x.crew(0, 0, 2), 0);
            duty(x, 0, 0, 14, 3);
            due("behind a sailing of the same ferry", x.crew(4, 0, 2), 14);
            duty(x, 1, 0, 17, 3);
            due("behind a sailing without a place", x.crew(5, 0, 2), 16);
            x.set(3, 0);
            due("without handovers", x.crew(5, 0, 2), 17);
            due("of one that sailed", x.crew(0, 0, 2), 0);
        });
        says("Returns the number", () -> {
            FerryCrews x = upsideDown();
            due("member 0", x.crew(0, 9, 0), 0);
            due("role 0", x.crew(0, 0, 1), 0);
            due("member 11", x.crew(0, 2, 0), 11);
            due("role 3", x.crew(0, 11, 1), 3);
            due("the hour", x.crew(0, 11, 2), 9);
        });
        says("UNKNOWN", () -> {
            for (int sailing : NO_SAILINGS) {
                unchanged("sailing " + sailing, Sentences::harbour, x -> x.crew(sailing, 0, 0), UNKNOWN);
                due("ahead of BAD_VALUE (rank)", harbour().crew(sailing, -1, 0), UNKNOWN);
                due("ahead of BAD_VALUE (what)", harbour().crew(sailing, 0, 3), UNKNOWN);
            }
        });
        says("BAD_VALUE", () -> {
            for (int rank : new int[] {-1, LEAST}) {
                unchanged("rank " + rank, Sentences::harbour, x -> x.crew(3, rank, 0), BAD_VALUE);
            }
            for (int what : new int[] {-1, 3, LEAST, GREATEST}) {
                unchanged("what " + what, Sentences::harbour, x -> x.crew(3, 0, what), BAD_VALUE);
                due("ahead of NONE", harbour().crew(3, 2, what), BAD_VALUE);
            }
        });
        says("NONE if there are not so many", () -> {
            for (int what = 0; what < 3; what++) {
                int asked = what;
                for (int rank : new int[] {2, 3, 12, GREATEST}) {
                    unchanged("rank " + rank, Sentences::harbour, x -> x.crew(3, rank, asked), NONE);
                }
                due("none of a cancelled one", harbour().crew(1, 0, what), NONE);
                due("the 13th", upsideDown().crew(0, 12, what), NONE);
            }
        });
    }

    private static void memberOf() {
        promise(24);
        says("`member`: a member", () -> {
            FerryCrews x = fleet();
            due("the first", x.memberOf(0, 5), 0);
            due("the last", x.memberOf(11, 5), 1);
        });
        says("Returns the number", () -> {
            FerryCrews x = harbour();
            for (int n = 0; n < MEMBERS.length; n++) {
                for (int what = 0; what < 10; what++) {
                    due("memberOf(" + n + ", " + what + ")", x.memberOf(n, what), MEMBERS[n][what]);
                }
            }
        });
        says("UNKNOWN", () -> {
            for (int member : NO_MEMBERS) {
                unchanged("member " + member, Sentences::harbour, x -> x.memberOf(member, 0), UNKNOWN);
                due("ahead of BAD_VALUE", harbour().memberOf(member, 10), UNKNOWN);
            }
            due("without members", new FerryCrews().memberOf(0, 0), UNKNOWN);
        });
        says("BAD_VALUE", () -> {
            for (int what : new int[] {-1, 10, LEAST, GREATEST}) {
                unchanged("what " + what, Sentences::harbour, x -> x.memberOf(0, what), BAD_VALUE);
            }
        });
    }

    private static void memberOfWhat() {
        says("`what`: 0 to 3 for the hours at which its certificates of the roles end (0 without one), 4 for the hour up to "
            + "which it is sick (NONE if it is not), 5 for its places on open sailings, 6 for those on sailings that sailed, "
            + "7 for the hours of duty of all its places, 8 for the places that it took as a cover so far, 9 for the number "
            + "of the next open sailing, by start, on which it has a place (NONE if there is none)", () -> {
                certificatesAndSickness();
                placesAndHours();
                coversAndNext();
            });
    }

    private static void certificatesAndSickness() {
        FerryCrews x = new FerryCrews();
        x.member(1, 70);
        x.certify(0, 3, 9999);
        int[] ends = {0, 70, 0, 9999};
        for (int role = 0; role < 4; role++) {
            due("certificate " + role, x.memberOf(0, role), ends[role]);
        }
        due("not sick", x.memberOf(0, 4), NONE);
        x.sick(0, 3);
        x.pass(2);
        due("sick in its last hour", x.memberOf(0, 4), 3);
        x.pass(1);
        due("not sick then", x.memberOf(0, 4), NONE);
    }

    private static void placesAndHours() {
        FerryCrews x = withoutRests();
        members(x, 2, 0);
        for (int n = 0; n < 3; n++) {
            duty(x, 0, 0, 10 + 2 * n, 2);
        }
        duty(x, 0, 1, 20, 3);
        duty(x, 1, 2, 20, 3);
        due("open ones", x.memberOf(0, 5), 4);
        due("hours, two handovers", x.memberOf(0, 7), 7 + 4);
        x.pass(13);
        due("open ones then", x.memberOf(0, 5), 2);
        due("those that sailed", x.memberOf(0, 6), 2);
        due("hours of all", x.memberOf(0, 7), 11);
        x.cancel(3);
        due("open ones without a cancelled one", x.memberOf(0, 5), 1);
        due("hours without it", x.memberOf(0, 7), 7);
        due("of another member", x.memberOf(1, 5), 1);
        due("none of it sailed", x.memberOf(1, 6), 0);
        x.set(3, 0);
        due("hours without handovers", x.memberOf(0, 7), 6);
    }

    private static void coversAndNext() {
        FerryCrews x = plain();
        members(x, 2, 0);
        x.sailing(0, 30, 2, 1000);
        x.sailing(0, 20, 2, 1000);
        x.sailing(0, 10, 2, 1000);
        due("no place", x.memberOf(0, 9), NONE);
        x.fill(0);
        due("a cover of fill()", x.memberOf(0, 8), 1);
        due("next", x.memberOf(0, 9), 0);
        x.give(0, 2, 0);
        due("a place that is given", x.memberOf(0, 8), 1);
        due("next by start", x.memberOf(0, 9), 2);
        x.fill(1);
        due("next by start, not by number", x.memberOf(0, 9), 2);
        x.sick(0, 21);
        due("a cover of sick()", x.memberOf(1, 8), 2);
        due("its own covers stay", x.memberOf(0, 8), 2);
        due("its next", x.memberOf(0, 9), 0);
        due("the next of the other", x.memberOf(1, 9), 2);
        x.pass(11);
        due("the next behind one that sailed", x.memberOf(1, 9), 1);
        x.cancel(1);
        due("none behind a cancelled one", x.memberOf(1, 9), NONE);
        due("covers so far", x.memberOf(1, 8), 2);
        x.sick(0, 400);
        x.undo();
        due("an undone cover", x.memberOf(1, 8), 2);
    }

    private static void ladder() {
        promise(25);
        says("Tells a member of a ladder", () -> {
            FerryCrews x = harbour();
            due("ladder 0", x.ladder(0, 1), 1);
            due("ladder 2", x.ladder(2, 0), 3);
            due("ladder 2, then", x.ladder(2, 1), 0);
        });
        says("`role`: 0 to 3", () -> {
            FerryCrews x = new FerryCrews();
            for (int role = 0; role <= 3; role++) {
                due("none", x.ladder(role, 0), NONE);
                x.member(role, 5);
                due("role " + role, x.ladder(role, 0), role);
            }
        });
        says("`rank`: from 0", () -> {
            FerryCrews x = fleet();
            for (int rank = 0; rank < 12; rank++) {
                due("rank " + rank, x.ladder(0, rank), rank);
            }
        });
        says("Returns the member", () -> {
            FerryCrews x = fleet();
            x.climb(11, 3);
            x.climb(0, 3);
            due("member 11", x.ladder(3, 0), 11);
            due("member 0", x.ladder(3, 1), 0);
        });
        says("UNKNOWN (role)", () -> {
            for (int role : NO_ROLES) {
                unchanged("role " + role, Sentences::harbour, x -> x.ladder(role, 0), UNKNOWN);
                due("ahead of BAD_VALUE", harbour().ladder(role, -1), UNKNOWN);
            }
        });
        says("BAD_VALUE if rank is negative", () -> {
            for (int rank : new int[] {-1, LEAST}) {
                unchanged("rank " + rank, Sentences::harbour, x -> x.ladder(0, rank), BAD_VALUE);
                due("ahead of NONE", harbour().ladder(3, rank), BAD_VALUE);
            }
        });
        says("NONE if there are not so many", () -> {
            for (int rank : new int[] {2, 11, 12, GREATEST}) {
                unchanged("rank " + rank, Sentences::harbour, x -> x.ladder(0, rank), NONE);
            }
            due("an empty one", harbour().ladder(3, 0), NONE);
            due("the 13th", fleet().ladder(0, 12), NONE);
        });
    }

    /** Without handovers: member 0 has the hours 10 to 13, 0 and 900 to 911. */
    private static FerryCrews worked() {
        FerryCrews x = plain();
        members(x, 1, 0);
        duty(x, 0, 0, 10, 4);
        duty(x, 0, 1, 0, 1);
        duty(x, 0, 2, 900, 12);
        return x;
    }

    private static void rest() {
        promise(26);
        says("Tells the rest in a row of hours: how many are without duty", () -> {
            FerryCrews x = worked();
            due("ahead", x.rest(0, 5, 5), 5);
            due("with one hour", x.rest(0, 5, 6), 5);
            due("in it", x.rest(0, 11, 2), 0);
            due("just it", x.rest(0, 10, 4), 0);
            due("around it", x.rest(0, 9, 6), 2);
            due("behind it", x.rest(0, 14, 6), 6);
            x.set(3, 1);
            due("just it, with the handover", x.rest(0, 9, 6), 1);
            due("one that starts at 0", x.rest(0, 0, 2), 1);
            x.pass(11);
            due("one that sailed", x.rest(0, 10, 4), 0);
            x.cancel(2);
            due("one that was cancelled", x.rest(0, 900, 12), 12);
        });
        says("`member`: a member", () -> {
            FerryCrews x = fleet();
            due("the first", x.rest(0, 10, 2), 2);
            due("the last", x.rest(11, 10, 2), 0);
        });
        says("`from`: 0 to 1000: its first hour", () -> {
            FerryCrews x = worked();
            due("from 0", x.rest(0, 0, 1), 0);
            due("from 1", x.rest(0, 1, 1), 1);
            due("from 911", x.rest(0, 911, 1), 0);
            due("from 912", x.rest(0, 912, 1), 1);
            due("from 1000", x.rest(0, 1000, 1), 1);
        });
        says("`hours`: 1 to 168: how many", () -> {
            FerryCrews x = worked();
            due("1", x.rest(0, 13, 1), 0);
            due("168", x.rest(0, 0, 168), 163);
            due("168 with the last hour of a duty", x.rest(0, 13, 168), 167);
            due("168 up to a first hour", x.rest(0, 733, 168), 167);
            due("168 from 1000", x.rest(0, 1000, 168), 168);
        });
        says("Returns how many", () -> {
            due("none", worked().rest(0, 900, 12), 0);
            due("all", worked().rest(0, 912, 100), 100);
            due("without duty", fleet().rest(0, 0, 168), 168);
        });
        says("UNKNOWN", () -> {
            for (int member : NO_MEMBERS) {
                unchanged("member " + member, Sentences::harbour, x -> x.rest(member, 0, 1), UNKNOWN);
                due("ahead of BAD_VALUE (from)", harbour().rest(member, -1, 1), UNKNOWN);
                due("ahead of BAD_VALUE (hours)", harbour().rest(member, 0, 0), UNKNOWN);
            }
        });
        says("BAD_VALUE", () -> {
            for (int from : new int[] {-1, 1001, LEAST, GREATEST}) {
                unchanged("from " + from, Sentences::harbour, x -> x.rest(0, from, 1), BAD_VALUE);
            }
            for (int hours : new int[] {0, -1, 169, LEAST, GREATEST}) {
                unchanged("hours " + hours, Sentences::harbour, x -> x.rest(0, 1000, hours), BAD_VALUE);
            }
        });
    }

    private static void leastRest() {
        promise(27);
        says("Tells the least rest in any row of 24 hours", () -> {
            FerryCrews x = worked();
            due("12 hours are more than 5", x.leastRest(0, 0), 12);
            x.cancel(2);
            due("5 of the first row", x.leastRest(0, 0), 19);
            x.cancel(1);
            due("4", x.leastRest(0, 0), 20);
            duty(x, 0, 3, 34, 2);
            due("none of the row from 11 to 34, but 3 and 1", x.leastRest(0, 0), 20);
            duty(x, 0, 3, 33, 1);
            due("4 and 1", x.leastRest(0, 0), 19);
            FerryCrews y = plain();
            members(y, 1, 0);
            duty(y, 0, 0, 40, 12);
            duty(y, 0, 0, 52, 12);
            due("24 hours", y.leastRest(0, 0), 0);
        });
        says("`member`: a member", () -> {
            FerryCrews x = fleet();
            due("the first", x.leastRest(0, 0), 24);
            due("the last", x.leastRest(11, 0), 22);
        });
        leastRestWhat();
        says("Returns the number", () -> {
            FerryCrews x = fleet();
            due("without duty", x.leastRest(0, 0), 24);
            due("its first row", x.leastRest(0, 1), 0);
            due("its long rest", x.leastRest(0, 2), 24);
        });
        says("UNKNOWN", () -> {
            for (int member : NO_MEMBERS) {
                unchanged("member " + member, Sentences::harbour, x -> x.leastRest(member, 0), UNKNOWN);
                due("ahead of BAD_VALUE", harbour().leastRest(member, 3), UNKNOWN);
            }
        });
        says("BAD_VALUE", () -> {
            for (int what : new int[] {-1, 3, LEAST, GREATEST}) {
                unchanged("what " + what, Sentences::harbour, x -> x.leastRest(0, what), BAD_VALUE);
            }
        });
    }

    private static void leastRestWhat() {
        says("`what`: 0 for the rest, 1 for the first hour of the row, of several the earliest, 2 for the least long rest in "
            + "any row of 24 hours (the most hours without duty one after the other, all of the row)", () -> {
                FerryCrews x = plain();
                members(x, 1, 0);
                duty(x, 0, 0, 900, 12);
                due("rest", x.leastRest(0, 0), 12);
                due("the row that ends with the duty", x.leastRest(0, 1), 888);
                due("6 ahead and 6 behind", x.leastRest(0, 2), 6);
                duty(x, 0, 1, 500, 12);
                due("the earliest of both", x.leastRest(0, 1), 488);
                duty(x, 0, 2, 3, 12);
                due("the row from 0", x.leastRest(0, 1), 0);
                due("the rest is as before", x.leastRest(0, 0), 12);
                duty(x, 0, 3, 520, 1);
                due("13 hours", x.leastRest(0, 0), 11);
                due("the row up to the hour 520", x.leastRest(0, 1), 497);
                due("3, 8 and none in the row from 497", x.leastRest(0, 2), 6);
                duty(x, 0, 4, 894, 6);
                due("18 hours", x.leastRest(0, 0), 6);
                due("the row from 888", x.leastRest(0, 1), 888);
                due("3 ahead and 3 behind", x.leastRest(0, 2), 3);
                firstRows();
                longRests();
            });
    }

    private static void firstRows() {
        FerryCrews x = plain();
        members(x, 1, 0);
        duty(x, 0, 0, 0, 1);
        duty(x, 0, 0, 100, 1);
        due("one hour in two rows", x.leastRest(0, 0), 23);
        due("the row from 0 is the earliest", x.leastRest(0, 1), 0);
        duty(x, 0, 0, 24, 1);
        due("one hour in each of the first rows", x.leastRest(0, 1), 0);
        duty(x, 0, 0, 23, 1);
        due("two hours in the row from 0", x.leastRest(0, 1), 0);
        x.cancel(0);
        due("two hours in the row from 1", x.leastRest(0, 1), 1);
    }

    private static void longRests() {
        FerryCrews x = plain();
        members(x, 1, 0);
        duty(x, 0, 0, 40, 12);
        duty(x, 0, 0, 52, 11);
        due("23 hours", x.leastRest(0, 2), 1);
        duty(x, 0, 0, 63, 1);
        due("24 hours", x.leastRest(0, 2), 0);
        due("the row from 40", x.leastRest(0, 1), 40);
        duty(x, 0, 0, 64, 12);
        due("36 hours", x.leastRest(0, 2), 0);
        due("the earliest row of 24 of them", x.leastRest(0, 1), 40);
        FerryCrews y = plain();
        members(y, 1, 0);
        duty(y, 0, 0, 0, 12);
        due("12 hours of the row from 0", y.leastRest(0, 2), 12);
        FerryCrews z = plain();
        members(z, 1, 0);
        duty(z, 0, 0, 1, 12);
        due("1 and 11 in the row from 0", z.leastRest(0, 2), 11);
        duty(z, 0, 1, 18, 3);
        due("1, 5 and 3 in the row from 0", z.leastRest(0, 2), 5);
    }

    private static void overtime() {
        promise(28);
        says("Tells the hours of duty in a week beyond the hours of a week (the setting 4)", () -> {
            FerryCrews x = plain();
            members(x, 1, 0);
            for (int n = 0; n < 5; n++) {
                duty(x, 0, 0, 12 * n, 12);
            }
            due("60 hours, beyond 48", x.overtime(0, 0), 12);
            x.set(4, 59);
            due("beyond 59", x.overtime(0, 0), 1);
            x.set(4, 60);
            due("beyond 60", x.overtime(0, 0), 0);
            x.set(4, 61);
            due("beyond 61", x.overtime(0, 0), 0);
            x.set(4, 0);
            due("beyond 0", x.overtime(0, 0), 60);
            x.pass(13);
            due("two sailed", x.overtime(0, 0), 60);
            x.cancel(4);
            due("one was cancelled", x.overtime(0, 0), 48);
            x.set(3, 1);
            due("handovers count, one after one of the same ferry is none", x.overtime(0, 0), 48);
        });
        says("The week w has the hours from 168 * w on", () -> {
            for (int week = 1; week < 6; week++) {
                FerryCrews x = plain();
                members(x, 1, 0);
                x.set(4, 0);
                duty(x, 0, 0, 168 * week - 4, 11);
                due("its last hours", x.overtime(0, week - 1), 4);
                due("the first hours of the next", x.overtime(0, week), 7);
                x.set(4, 5);
                due("less than the hours of a week", x.overtime(0, week - 1), 0);
                due("more than the hours of a week", x.overtime(0, week), 2);
            }
        });
        says("`member`: a member", () -> {
            FerryCrews x = fleet();
            x.set(4, 1);
            due("the first", x.overtime(0, 0), 0);
            due("the last", x.overtime(11, 0), 1);
        });
        says("`week`: 0 to 5", () -> {
            FerryCrews x = worked();
            x.set(4, 0);
            due("0", x.overtime(0, 0), 5);
            due("1", x.overtime(0, 1), 0);
            due("4", x.overtime(0, 4), 0);
            due("5", x.overtime(0, 5), 12);
        });
        says("Returns how many", () -> {
            FerryCrews x = worked();
            due("none", x.overtime(0, 5), 0);
            x.set(4, 11);
            due("one", x.overtime(0, 5), 1);
        });
        says("UNKNOWN (member or week)", () -> {
            for (int member : NO_MEMBERS) {
                unchanged("member " + member, Sentences::harbour, x -> x.overtime(member, 0), UNKNOWN);
            }
            for (int week : new int[] {-1, 6, LEAST, GREATEST}) {
                unchanged("week " + week, Sentences::harbour, x -> x.overtime(0, week), UNKNOWN);
            }
        });
    }

    private static void count() {
        promise(29);
        says("`what`: 0 for the hour of now, 1 for sailings so far, 2 to 4 for those that are open, sailed and cancelled, 5 for "
            + "members, 6 for those who are sick now, 7 for free places on open sailings, 8 for those that are taken, 9 for "
            + "covers so far, 10 for the hours beyond those of a week of all members in all weeks, 11 for states in the "
            + "history, 12 for the length of the text, 13 to 17 for the settings 0 to 4", () -> {
                FerryCrews x = harbour();
                int[] told = {5, 4, 2, 1, 1, 4, 1, 2, 3, 0, 0, 2, 23, 0, 0, 0, 1, 48};
                for (int what = 0; what < told.length; what++) {
                    due("count(" + what + ")", x.count(what), told[what]);
                }
                countSailings();
                countMembers();
                countHoursBeyond();
            });
        says("Returns the number", () -> {
            FerryCrews x = new FerryCrews();
            int[] told = {0, 0, 0, 0, 0, 0, 0, 0, 0, 0, 0, 0, 0, 10, 6, 77, 1, 48};
            for (int what = 0; what < told.length; what++) {
                due("count(" + what + ")", x.count(what), told[what]);
            }
        });
        says("BAD_VALUE", () -> {
            for (int what : new int[] {-1, 18, LEAST, GREATEST}) {
                unchanged("what " + what, Sentences::harbour, x -> x.count(what), BAD_VALUE);
            }
        });
    }

    /** Three sail, two do not, two are cancelled by calls, and three are open; places of the open ones alone count. */
    private static void countSailings() {
        FerryCrews x = plain();
        members(x, 3, 0);
        for (int n = 0; n < 3; n++) {
            duty(x, n, n, 0, 2);
            x.sailing(3 + n, n, 2, 3000);
            x.sailing(n, 10, 2, 1100);
            x.give(n, 3 * n + 2, 0);
        }
        x.sailing(5, 30, 2, 3333);
        x.cancel(8);
        x.cancel(5);
        x.pass(2);
        int[] told = {2, 10, 3, 3, 4};
        for (int what = 0; what < told.length; what++) {
            due("sailings: count(" + what + ")", x.count(what), told[what]);
        }
        due("free places", x.count(7), 3 + 1 + 12);
        due("taken places", x.count(8), 1);
        FerryCrews y = SailingsSentencesTest.wholeCrew();
        due("no free places", y.count(7), 0);
        due("twelve taken places", y.count(8), 12);
        due("48 sailings", fleet().count(1), 48);
        due("47 free places", fleet().count(7), 47);
    }

    private static void countMembers() {
        FerryCrews x = fleet();
        due("members", x.count(5), 12);
        x.sick(0, 1);
        x.sick(11, 2);
        due("sick now", x.count(6), 2);
        x.fill(0);
        x.fill(1);
        due("covers of a member", x.count(9), 2);
        x.sick(0, 400);
        due("covers of two", x.count(9), 4);
        x.pass(2);
        due("sick now, one is well again", x.count(6), 1);
        x.undo();
        x.undo();
        due("covers that were undone", x.count(9), 2);
    }

    private static void countHoursBeyond() {
        FerryCrews x = plain();
        members(x, 12, 0);
        x.set(4, 3);
        for (int week = 0; week < 6; week++) {
            duty(x, 11, 0, 168 * week + 10, 2 + week);
        }
        due("hours of weeks are not added", x.count(10), 1 + 2 + 3 + 4);
        duty(x, 0, 1, 900, 12);
        due("of all members", x.count(10), 10 + 9);
        x.set(4, 0);
        due("all hours", x.count(10), 2 + 3 + 4 + 5 + 6 + 7 + 12);
    }
}
