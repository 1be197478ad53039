/** Promises 5 to 10, sentence by sentence. */
public final class MembersSentencesTest extends Sentences {
    private static final int[] NO_MEMBERS = {-1, 4, 12, LEAST, GREATEST};
    private static final int[] NO_ROLES = {-1, 4, LEAST, GREATEST};
    private static final int[] NO_ENDS = {-1, 10000, LEAST, GREATEST};

    public static void main(String[] args) {
        begin("MembersSentencesTest", 5, 10);
        member();
        memberErrors();
        certify();
        certifyErrors();
        climb();
        leave();
        sick();
        sickErrors();
        well();
        end();
    }

    /** The ladder of the role has just these members. */
    private static void ladder(FerryCrews x, int role, int... members) {
        for (int rank = 0; rank < members.length; rank++) {
            due("ladder(" + role + ", " + rank + ")", x.ladder(role, rank), members[rank]);
        }
        due("behind its end", x.ladder(role, members.length), NONE);
    }

    /** Twelve members, all on the ladder of the role 0, by their numbers. */
    private static FerryCrews crowd() {
        FerryCrews x = new FerryCrews();
        members(x, 12, 0);
        clearHistory(x);
        return x;
    }

    private static void member() {
        promise(5);
        says("A member comes, with one certificate, and at the end of the ladder of that role", () -> {
            FerryCrews x = harbour();
            x.member(2, 77);
            int[] told = {0, 0, 77, 0, NONE, 0, 0, 0, 0, NONE};
            for (int what = 0; what < told.length; what++) {
                due("memberOf(4, " + what + ")", x.memberOf(4, what), told[what]);
            }
            due("members", x.count(5), 5);
            ladder(x, 2, 3, 0, 4);
            ladder(x, 0, 0, 1);
            ladder(x, 1, 2);
            ladder(x, 3);
        });
        says("This is an act", () -> act("member", Sentences::harbour, x -> x.member(0, 900), 4));
        says("`role`: 0 to 3", () -> {
            FerryCrews x = new FerryCrews();
            for (int role = 0; role <= 3; role++) {
                due("role " + role, x.member(role, 50), role);
                due("its certificate", x.memberOf(role, role), 50);
                ladder(x, role, role);
            }
        });
        says("`end`: the hour at which the certificate ends, 0 to 9999", () -> {
            FerryCrews x = new FerryCrews();
            due("0", x.member(0, 0), 0);
            due("9999", x.member(0, 9999), 1);
            due("it ends at 0", x.memberOf(0, 0), 0);
            due("it ends at 9999", x.memberOf(1, 0), 9999);
            x.sailing(0, 0, 1, 1000);
            due("too early for any sailing", x.why(0, 0, 0), 3);
        });
        says("Returns its number", () -> {
            FerryCrews x = new FerryCrews();
            for (int n = 0; n < 12; n++) {
                due("member " + n, x.member(3 - n % 4, 50), n);
            }
            x.undo();
            due("the last again", x.member(2, 60), 11);
            due("it is that one", x.memberOf(11, 2), 60);
            due("and not the one before", x.memberOf(11, 0), 0);
        });
    }

    private static void memberErrors() {
        says("UNKNOWN (role)", () -> {
            for (int role : NO_ROLES) {
                unchanged("role " + role, Sentences::harbour, x -> x.member(role, 50), UNKNOWN);
                due("ahead of BAD_VALUE", harbour().member(role, -1), UNKNOWN);
                due("ahead of FULL", crowd().member(role, 50), UNKNOWN);
            }
        });
        says("BAD_VALUE", () -> {
            for (int end : NO_ENDS) {
                unchanged("end " + end, Sentences::harbour, x -> x.member(0, end), BAD_VALUE);
                due("ahead of FULL", crowd().member(0, end), BAD_VALUE);
            }
        });
        says("FULL if there are 12", () -> {
            unchanged("the 13th", MembersSentencesTest::crowd, x -> x.member(1, 50), FULL);
            FerryCrews x = new FerryCrews();
            members(x, 11, 0);
            due("the 12th", x.member(0, 50), 11);
            due("the 13th", x.member(0, 50), FULL);
            x.undo();
            due("the 12th again", x.member(0, 50), 11);
        });
    }

    private static void certify() {
        promise(6);
        says("Gives a member a certificate, in place of that which it has", () -> {
            FerryCrews x = harbour();
            x.certify(1, 0, 500);
            due("in place of that", x.memberOf(1, 0), 500);
            x.certify(1, 3, 60);
            due("one more", x.memberOf(1, 3), 60);
            due("the other stays", x.memberOf(1, 0), 500);
            due("another member's", x.memberOf(0, 0), 900);
            ladder(x, 3);
            due("a place that it could not take", x.why(3, 2, 1), 3);
            x.certify(3, 1, 13);
            due("it ends too early", x.why(3, 2, 1), 3);
            x.certify(3, 1, 14);
            due("it ends with the sailing", x.why(3, 2, 1), 4);
        });
        says("This is an act", () -> {
            act("another", Sentences::harbour, x -> x.certify(0, 0, 14), 900);
            act("the same", Sentences::harbour, x -> x.certify(0, 0, 900), 900);
        });
        says("`member`: a member", () -> {
            FerryCrews x = crowd();
            due("the first", x.certify(0, 1, 50), 0);
            due("the last", x.certify(11, 1, 60), 0);
            due("of the first", x.memberOf(0, 1), 50);
            due("of the last", x.memberOf(11, 1), 60);
        });
        says("`role`: 0 to 3", () -> {
            FerryCrews x = new FerryCrews();
            x.member(0, 9);
            for (int role = 0; role <= 3; role++) {
                due("role " + role, x.certify(0, role, 50 + role), role == 0 ? 9 : 0);
                due("told", x.memberOf(0, role), 50 + role);
            }
        });
        says("`end`: the hour at which it ends, 0 to 9999", () -> {
            FerryCrews x = crowd();
            due("0", x.certify(0, 1, 0), 0);
            due("9999", x.certify(1, 1, 9999), 0);
            due("it ends at 0", x.memberOf(0, 1), 0);
            due("it ends at 9999", x.memberOf(1, 1), 9999);
        });
        says("Returns the hour at which the previous one ended, 0 if there was none", () -> {
            FerryCrews x = harbour();
            due("none", x.certify(2, 3, 9999), 0);
            due("9999", x.certify(2, 3, 0), 9999);
            due("0", x.certify(2, 3, 7), 0);
            due("7", x.certify(2, 3, 7), 7);
        });
    }

    private static void certifyErrors() {
        says("UNKNOWN (member or role)", () -> {
            for (int member : NO_MEMBERS) {
                unchanged("member " + member, Sentences::harbour, x -> x.certify(member, 0, 50), UNKNOWN);
                due("ahead of BAD_VALUE", harbour().certify(member, 0, -1), UNKNOWN);
            }
            for (int role : NO_ROLES) {
                unchanged("role " + role, Sentences::harbour, x -> x.certify(0, role, 50), UNKNOWN);
                due("ahead of BAD_VALUE", harbour().certify(0, role, 10000), UNKNOWN);
            }
        });
        says("BAD_VALUE", () -> {
            for (int end : NO_ENDS) {
                unchanged("end " + end, Sentences::harbour, x -> x.certify(0, 3, end), BAD_VALUE);
            }
            due("ahead of NOT_POSSIBLE", harbour().certify(0, 0, -1), BAD_VALUE);
        });
        says("NOT_POSSIBLE if the member has a place of the role on an open sailing that ends later", () -> {
            unchanged("an hour too early", Sentences::harbour, x -> x.certify(0, 0, 13), NOT_POSSIBLE);
            unchanged("none", Sentences::harbour, x -> x.certify(2, 1, 0), NOT_POSSIBLE);
            due("with the sailing", harbour().certify(0, 0, 14), 900);
            due("of another role", harbour().certify(0, 1, 13), 900);
            due("of another member", harbour().certify(3, 2, 13), 30);
            FerryCrews x = harbour();
            x.giveUp(0, 2);
            due("on a sailing that sailed", x.certify(0, 0, 3), 900);
            FerryCrews y = harbour();
            y.cancel(2);
            due("on a cancelled sailing", y.certify(0, 0, 3), 900);
            FerryCrews z = harbour();
            duty(z, 0, 5, 100, 4);
            due("on the later of two", z.certify(0, 0, 103), NOT_POSSIBLE);
            due("with the later of two", z.certify(0, 0, 104), 900);
        });
    }

    private static void climb() {
        promise(7);
        says("Puts a member at the end of the ladder of a role, also if it is on it already", () -> {
            FerryCrews x = harbour();
            x.climb(1, 2);
            ladder(x, 2, 3, 0, 1);
            x.climb(3, 2);
            ladder(x, 2, 0, 1, 3);
            x.climb(1, 2);
            ladder(x, 2, 0, 3, 1);
            x.climb(1, 2);
            ladder(x, 2, 0, 3, 1);
            ladder(x, 0, 0, 1);
            FerryCrews y = crowd();
            y.climb(0, 0);
            ladder(y, 0, 1, 2, 3, 4, 5, 6, 7, 8, 9, 10, 11, 0);
            y.climb(11, 0);
            ladder(y, 0, 1, 2, 3, 4, 5, 6, 7, 8, 9, 10, 0, 11);
            y.climb(11, 0);
            ladder(y, 0, 1, 2, 3, 4, 5, 6, 7, 8, 9, 10, 0, 11);
        });
        says("This is an act", () -> {
            act("from the front", Sentences::harbour, x -> x.climb(0, 0), 2);
            act("it is last already", Sentences::harbour, x -> x.climb(1, 0), 2);
            act("it was not on it", Sentences::harbour, x -> x.climb(1, 3), 1);
            act("of twelve", MembersSentencesTest::crowd, x -> x.climb(0, 0), 12);
        });
        says("`member`: a member", () -> {
            FerryCrews x = crowd();
            due("the first", x.climb(0, 1), 1);
            due("the last", x.climb(11, 1), 2);
            ladder(x, 1, 0, 11);
        });
        says("`role`: 0 to 3", () -> {
            FerryCrews x = crowd();
            for (int role = 1; role <= 3; role++) {
                due("role " + role, x.climb(role, role), 1);
                ladder(x, role, role);
            }
            due("role 0", x.climb(4, 0), 12);
        });
        says("Returns how many are on the ladder then", () -> {
            FerryCrews x = crowd();
            for (int n = 0; n < 12; n++) {
                due("one more", x.climb(n, 2), n + 1);
            }
            due("the first again", x.climb(0, 2), 12);
        });
        says("UNKNOWN (member or role)", () -> {
            for (int member : NO_MEMBERS) {
                unchanged("member " + member, Sentences::harbour, x -> x.climb(member, 0), UNKNOWN);
            }
            for (int role : NO_ROLES) {
                unchanged("role " + role, Sentences::harbour, x -> x.climb(0, role), UNKNOWN);
            }
            due("without members", new FerryCrews().climb(0, 0), UNKNOWN);
            due("behind the last", crowd().climb(12, 0), UNKNOWN);
        });
    }

    private static void leave() {
        promise(8);
        says("Takes a member off the ladder of a role", () -> {
            FerryCrews x = harbour();
            x.leave(3, 2);
            ladder(x, 2, 0);
            ladder(x, 0, 0, 1);
            due("its certificate stays", x.memberOf(3, 2), 30);
            FerryCrews y = crowd();
            y.leave(11, 0);
            ladder(y, 0, 0, 1, 2, 3, 4, 5, 6, 7, 8, 9, 10);
            y.leave(0, 0);
            ladder(y, 0, 1, 2, 3, 4, 5, 6, 7, 8, 9, 10);
            y.leave(5, 0);
            ladder(y, 0, 1, 2, 3, 4, 6, 7, 8, 9, 10);
            y.climb(5, 0);
            ladder(y, 0, 1, 2, 3, 4, 6, 7, 8, 9, 10, 5);
        });
        says("This is an act", () -> {
            act("the first", Sentences::harbour, x -> x.leave(0, 0), 1);
            act("the last of twelve", MembersSentencesTest::crowd, x -> x.leave(11, 0), 11);
        });
        says("`member`: a member", () -> {
            FerryCrews x = crowd();
            due("the first", x.leave(0, 0), 11);
            due("the last", x.leave(11, 0), 10);
        });
        says("`role`: 0 to 3", () -> {
            FerryCrews x = new FerryCrews();
            for (int role = 0; role <= 3; role++) {
                x.member(role, 50);
                due("role " + role, x.leave(role, role), 0);
                ladder(x, role);
            }
        });
        says("Returns how many are on the ladder then", () -> {
            FerryCrews x = crowd();
            for (int n = 0; n < 12; n++) {
                due("one less", x.leave((n + 5) % 12, 0), 11 - n);
            }
        });
        says("UNKNOWN (member or role)", () -> {
            for (int member : NO_MEMBERS) {
                unchanged("member " + member, Sentences::harbour, x -> x.leave(member, 0), UNKNOWN);
            }
            for (int role : NO_ROLES) {
                unchanged("role " + role, Sentences::harbour, x -> x.leave(0, role), UNKNOWN);
            }
            due("without members", new FerryCrews().leave(0, 0), UNKNOWN);
            due("behind the last", crowd().leave(12, 0), UNKNOWN);
        });
        says("NONE if it is not on it", () -> {
            unchanged("an empty ladder", Sentences::harbour, x -> x.leave(0, 3), NONE);
            unchanged("on another ladder alone", Sentences::harbour, x -> x.leave(2, 0), NONE);
            FerryCrews x = crowd();
            x.leave(11, 0);
            due("it left", x.leave(11, 0), NONE);
            for (int n = 0; n < 11; n++) {
                x.leave(n, 0);
            }
            due("all left", x.leave(0, 0), NONE);
        });
    }

    private static void sick() {
        promise(9);
        says("Tells that a member is sick", () -> {
            FerryCrews x = harbour();
            x.sick(1, 20);
            due("up to", x.memberOf(1, 4), 25);
            due("it and 3", x.count(6), 2);
            due("it cannot take a place then", x.why(1, 2, 0), 4);
            due("its place behind that stays", x.crew(3, 0, 0), 1);
            FerryCrews y = harbour();
            y.sick(0, 10);
            due("its place in that is covered", y.crew(2, 0, 0), 1);
            due("by one cover", y.memberOf(1, 8), 1);
            due("of the same role", y.crew(2, 0, 1), 0);
        });
        says("This is an act", () -> {
            act("places are covered", Sentences::harbour, x -> x.sick(0, 10), 0);
            act("places stay free", Sentences::harbour, x -> x.sick(2, 400), 1);
            act("it has none in that", Sentences::harbour, x -> x.sick(2, 1), 0);
            act("the same once more", Sentences::harbour, x -> x.sick(3, 6), 0);
            act("of a whole crew", SailingsSentencesTest::wholeCrew, x -> x.sick(11, 11), 1);
        });
        says("`member`: a member", () -> {
            FerryCrews x = crowd();
            due("the first", x.sick(0, 5), 0);
            due("the last", x.sick(11, 6), 0);
            due("of the first", x.memberOf(0, 4), 5);
            due("of the last", x.memberOf(11, 4), 6);
            due("both", x.count(6), 2);
        });
        says("`hours`: 1 to 400", () -> {
            FerryCrews x = crowd();
            x.pass(7);
            due("1", x.sick(0, 1), 0);
            due("400", x.sick(1, 400), 0);
            due("up to 8", x.memberOf(0, 4), 8);
            due("up to 407", x.memberOf(1, 4), 407);
            for (int n = 0; n < 4; n++) {
                x.pass(200);
            }
            x.pass(193);
            due("at 1000", x.sick(2, 400), 0);
            due("up to 1400", x.memberOf(2, 4), 1400);
        });
        says("Returns how many of the places that it gives up stay free", () -> {
            due("all are covered, other places of the sailing stay free", harbour().sick(0, 400), 0);
            due("none is covered", harbour().sick(2, 400), 1);
            FerryCrews x = plain();
            members(x, 2, 0);
            for (int n = 0; n < 5; n++) {
                duty(x, 0, 0, 10 * n + 10, 2);
            }
            duty(x, 1, 1, 21, 2);
            duty(x, 1, 1, 30, 2);
            due("2 of 4, as the other has no rest then", x.sick(0, 41), 2);
            due("the fifth is not given up", x.crew(4, 0, 0), 0);
            due("the one that starts when it is sick is", x.crew(3, 0, 0), 1);
            due("one more", x.sick(0, 60), 0);
            due("it is well for none", x.sick(1, 400), 5);
        });
    }

    private static void sickErrors() {
        says("UNKNOWN", () -> {
            for (int member : NO_MEMBERS) {
                unchanged("member " + member, Sentences::harbour, x -> x.sick(member, 5), UNKNOWN);
                due("ahead of BAD_VALUE", harbour().sick(member, 0), UNKNOWN);
            }
            due("without members", new FerryCrews().sick(0, 5), UNKNOWN);
        });
        says("BAD_VALUE", () -> {
            for (int hours : new int[] {0, -1, 401, LEAST, GREATEST}) {
                unchanged("hours " + hours, Sentences::harbour, x -> x.sick(0, hours), BAD_VALUE);
            }
        });
    }

    private static void well() {
        promise(10);
        says("Tells that a member is well again", () -> {
            FerryCrews x = harbour();
            x.sick(2, 400);
            x.well(2);
            due("up to no hour", x.memberOf(2, 4), NONE);
            due("3 alone is sick", x.count(6), 1);
            due("it can take a place", x.why(2, 3, 1), 0);
            due("it does not have it again", x.crew(3, 1, 0), NONE);
            due("told once more", x.sick(2, 5), 0);
            due("up to", x.memberOf(2, 4), 10);
        });
        says("This is an act", () -> act("well", Sentences::harbour, x -> x.well(3), 6));
        says("`member`: a member", () -> {
            FerryCrews x = crowd();
            x.sick(0, 5);
            x.sick(11, 6);
            due("the first", x.well(0), 5);
            due("the last", x.well(11), 6);
        });
        says("Returns for how many hours it would have been sick", () -> {
            FerryCrews x = harbour();
            due("6", x.well(3), 6);
            x.undo();
            x.pass(5);
            due("the last hour", x.well(3), 1);
            x.sick(3, 400);
            due("400", x.well(3), 400);
            FerryCrews y = crowd();
            y.sick(0, 1);
            due("in the hour 0", y.well(0), 1);
            due("nobody is sick then", y.count(6), 0);
        });
        says("UNKNOWN", () -> {
            for (int member : NO_MEMBERS) {
                unchanged("member " + member, Sentences::harbour, x -> x.well(member), UNKNOWN);
            }
            due("without members", new FerryCrews().well(0), UNKNOWN);
        });
        says("NONE if it is not sick", () -> {
            unchanged("it never was", Sentences::harbour, x -> x.well(0), NONE);
            FerryCrews x = harbour();
            x.pass(6);
            due("it is over", x.well(3), NONE);
            x.sick(3, 9);
            x.well(3);
            due("it is well already", x.well(3), NONE);
            due("in the hour 0", crowd().well(0), NONE);
        });
    }
}
