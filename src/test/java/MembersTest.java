/** Promises 5 to 10: members, certificates, ladders and who is sick. */
public final class MembersTest {
    private static final Check CHECK = new Check("MembersTest");

    public static void main(String[] args) {
        member();
        certify();
        certifyBelowAPlace();
        climb();
        leave();
        sickArguments();
        sickGivesUpAndIsCovered();
        sickCoverHasPlacesOfItsOwn();
        sickByStartThenByNumber();
        sickInPlaceOfWhatWasTold();
        well();
        CHECK.end();
    }

    private static void due(String call, long got, long want) {
        CHECK.due(call, got, want);
    }

    private static void member() {
        FerryCrews x = new FerryCrews();
        due("role -1", x.member(-1, 5), -1);
        due("role 4, end wrong too", x.member(4, -1), -1);
        due("end -1", x.member(0, -1), -2);
        due("end 10000", x.member(0, 10000), -2);
        due("none of them came", x.count(5), 0);
        due("none is recorded", x.count(11), 0);
        for (int n = 0; n < 12; n++) {
            due("member " + n, x.member(n % 4, n == 0 ? 0 : 9999 - n), n);
        }
        due("the 13th", x.member(0, 5), -3);
        due("BAD_VALUE comes first", x.member(0, 10000), -2);
        due("UNKNOWN comes first", x.member(4, 5), -1);
        for (int role = 0; role < 4; role++) {
            for (int rank = 0; rank < 3; rank++) {
                due("ladder " + role + ", " + rank, x.ladder(role, rank), role + 4 * rank);
            }
            due("no more on the ladder", x.ladder(role, 3), -5);
            due("certificate " + role + " of 5", x.memberOf(5, role), role == 1 ? 9994 : 0);
        }
        due("recorded", x.undo(), 3);
        due("one less", x.count(5), 11);
        due("off the ladder too", x.ladder(3, 2), -5);
        due("certificates of a new one", x.member(0, 7), 11);
        due("its old one is gone", x.memberOf(11, 3), 0);
    }

    private static void certify() {
        FerryCrews x = new FerryCrews();
        due("no member", x.certify(0, 0, 5), -1);
        x.member(0, 50);
        due("member -1", x.certify(-1, 0, 5), -1);
        due("member 1", x.certify(1, 0, 5), -1);
        due("role -1", x.certify(0, -1, 5), -1);
        due("role 4, end wrong too", x.certify(0, 4, -1), -1);
        due("end -1", x.certify(0, 0, -1), -2);
        due("end 10000", x.certify(0, 0, 10000), -2);
        due("only one act", x.count(11), 1);
        due("a new one", x.certify(0, 2, 9999), 0);
        due("in place of that", x.certify(0, 2, 0), 9999);
        due("and of that", x.certify(0, 2, 7), 0);
        due("the other stays", x.memberOf(0, 0), 50);
        due("not put on a ladder", x.ladder(2, 0), -5);
        due("an act", x.undo(), 3);
        due("undone", x.memberOf(0, 2), 0);
    }

    private static void certifyBelowAPlace() {
        FerryCrews x = new FerryCrews();
        x.member(0, 50);
        x.certify(0, 1, 50);
        x.sailing(0, 5, 4, 1100);
        x.give(0, 0, 0);
        due("it ends in the sailing", x.certify(0, 0, 8), -4);
        due("BAD_VALUE comes first", x.certify(0, 0, -1), -2);
        due("it ends with the sailing", x.certify(0, 0, 9), 50);
        due("of another role", x.certify(0, 1, 0), 50);
        x.member(1, 50);
        x.give(1, 0, 1);
        x.pass(6);
        due("it sailed", x.sailingOf(0, 0), 1);
        due("of a sailing that sailed", x.certify(0, 0, 3), 9);
        x.certify(0, 0, 50);
        x.sailing(0, 60, 4, 1000);
        due("a certificate too short", x.give(0, 1, 0), 3);
        x.certify(0, 0, 64);
        x.give(0, 1, 0);
        due("of an open sailing", x.certify(0, 0, 63), -4);
        x.cancel(1);
        due("of a cancelled sailing", x.certify(0, 0, 63), 64);
    }

    private static void climb() {
        FerryCrews x = new FerryCrews();
        due("no member", x.climb(0, 0), -1);
        for (int n = 0; n < 3; n++) {
            x.member(0, 50);
        }
        due("member -1", x.climb(-1, 0), -1);
        due("member 3", x.climb(3, 0), -1);
        due("role -1", x.climb(0, -1), -1);
        due("role 4", x.climb(0, 4), -1);
        due("only the members are recorded", x.count(11), 3);
        due("on a ladder without a certificate", x.climb(2, 1), 1);
        due("the first to the end", x.climb(0, 0), 3);
        ladder(x, 0, 1, 2, 0);
        due("the one in the middle", x.climb(2, 0), 3);
        ladder(x, 0, 1, 0, 2);
        due("the last one stays there", x.climb(2, 0), 3);
        ladder(x, 0, 1, 0, 2);
        due("another ladder", x.climb(1, 1), 2);
        ladder(x, 1, 2, 1, -5);
        due("an act also when it is last", x.count(11), 4);
        x.undo();
        x.undo();
        x.undo();
        ladder(x, 0, 1, 2, 0);
        due("the other ladder is as before", x.ladder(1, 1), -5);
    }

    private static void ladder(FerryCrews x, int role, int... members) {
        for (int rank = 0; rank < members.length; rank++) {
            due("ladder(" + role + ", " + rank + ")", x.ladder(role, rank), members[rank]);
        }
        due("behind its end", x.ladder(role, members.length), -5);
    }

    private static void leave() {
        FerryCrews x = new FerryCrews();
        due("no member", x.leave(0, 0), -1);
        for (int n = 0; n < 3; n++) {
            x.member(0, 50);
        }
        due("member -1", x.leave(-1, 0), -1);
        due("member 3", x.leave(3, 0), -1);
        due("role -1", x.leave(0, -1), -1);
        due("role 4", x.leave(0, 4), -1);
        due("not on it", x.leave(0, 1), -5);
        due("none is recorded", x.count(11), 3);
        due("from the middle", x.leave(1, 0), 2);
        ladder(x, 0, 0, 2);
        due("not on it now", x.leave(1, 0), -5);
        due("the first", x.leave(0, 0), 1);
        due("the last", x.leave(2, 0), 0);
        ladder(x, 0);
        due("its certificate stays", x.memberOf(1, 0), 50);
        due("an act", x.undo(), 3);
        ladder(x, 0, 2);
    }

    private static void sickArguments() {
        FerryCrews x = new FerryCrews();
        due("no member", x.sick(0, 5), -1);
        x.member(0, 900);
        due("member -1, hours wrong too", x.sick(-1, 0), -1);
        due("member 1", x.sick(1, 5), -1);
        due("hours 0", x.sick(0, 0), -2);
        due("hours 401", x.sick(0, 401), -2);
        due("none is recorded", x.count(11), 1);
        x.pass(10);
        due("hours 400", x.sick(0, 400), 0);
        due("sick up to", x.memberOf(0, 4), 410);
        due("an act", x.undo(), 2);
        due("not sick then", x.memberOf(0, 4), -5);
        due("hours 1", x.sick(0, 1), 0);
        due("sick now", x.count(6), 1);
        x.pass(1);
        due("well by itself", x.count(6), 0);
        due("not sick any more", x.memberOf(0, 4), -5);
    }

    private static void sickGivesUpAndIsCovered() {
        FerryCrews x = Check.withoutRests();
        for (int n = 0; n < 3; n++) {
            x.member(0, 900);
        }
        x.sailing(0, 10, 4, 1000);
        x.sailing(0, 30, 4, 1000);
        x.sailing(0, 50, 4, 1000);
        x.give(0, 0, 0);
        x.give(0, 1, 0);
        x.give(0, 2, 0);
        x.certify(1, 0, 20);
        due("none stays free", x.sick(0, 31), 0);
        due("the first who can", x.crew(0, 0, 0), 1);
        due("the next who can", x.crew(1, 0, 0), 2);
        due("a start at the end of being sick", x.crew(2, 0, 0), 0);
        due("covers of 0", x.memberOf(0, 8), 0);
        due("covers of 1", x.memberOf(1, 8), 1);
        due("covers of 2", x.memberOf(2, 8), 1);
        due("covers", x.count(9), 2);
        due("2 is sick too", x.sick(2, 31), 1);
        due("its place stays free", x.sailingOf(1, 6), 1);
        due("nobody has it", x.crew(1, 0, 0), -5);
        due("covers stay told", x.memberOf(2, 8), 1);
        x.pass(12);
        due("it sailed", x.sailingOf(0, 0), 1);
        due("a place that sailed is not given up", x.sick(1, 5), 0);
        due("it is still 1's", x.crew(0, 0, 0), 1);
    }

    private static void sickCoverHasPlacesOfItsOwn() {
        FerryCrews x = Check.withoutRests();
        x.member(0, 900);
        x.member(1, 900);
        x.certify(1, 0, 900);
        x.climb(1, 0);
        x.sailing(0, 10, 4, 1100);
        x.sailing(1, 12, 4, 1000);
        x.give(1, 0, 1);
        x.give(0, 0, 0);
        due("1 cannot cover where it has a place", x.sick(0, 40), 1);
        due("the place is free", x.sailingOf(0, 6), 1);
        due("1 keeps its place", x.crew(0, 0, 0), 1);

        FerryCrews y = Check.withoutRests();
        y.member(0, 900);
        y.member(0, 900);
        y.sailing(0, 10, 2, 1000);
        y.sailing(0, 12, 2, 1000);
        y.give(0, 0, 0);
        y.give(0, 1, 0);
        due("both are covered", y.sick(0, 40), 0);
        due("the first by 1", y.crew(0, 0, 0), 1);
        due("the second by 1", y.crew(1, 0, 0), 1);
    }

    private static void sickByStartThenByNumber() {
        FerryCrews x = new FerryCrews();
        x.set(2, 0);
        x.member(0, 900);
        x.member(0, 900);
        x.sailing(0, 40, 8, 1000);
        x.sailing(1, 26, 4, 1000);
        x.set(0, 8);
        x.set(1, 0);
        x.sailing(2, 33, 3, 1000);
        due("1 takes one in between", x.give(1, 2, 0), 0);
        due("1 could take the one", x.why(1, 0, 0), 0);
        due("1 could take the other", x.why(1, 1, 0), 0);
        due("0 takes the later one", x.give(0, 0, 0), 0);
        due("0 takes the earlier one", x.give(0, 1, 0), 0);
        due("only one of them", x.sick(0, 60), 1);
        due("it is the earlier one", x.crew(1, 0, 0), 1);
        due("not the one of the lower number", x.crew(0, 0, 0), -5);
    }

    private static void sickInPlaceOfWhatWasTold() {
        FerryCrews x = new FerryCrews();
        x.member(0, 900);
        x.sailing(0, 20, 4, 1000);
        x.sick(0, 100);
        due("sick then", x.why(0, 0, 0), 4);
        x.pass(5);
        due("told again", x.sick(0, 15), 0);
        due("up to the start", x.memberOf(0, 4), 20);
        due("not sick then", x.why(0, 0, 0), 0);
        x.sick(0, 16);
        due("sick in its first hour", x.why(0, 0, 0), 4);
        x.sick(0, 1);
        x.give(0, 0, 0);
        x.leave(0, 0);
        due("it ends at the start", x.sick(0, 15), 0);
        due("the place is not given up", x.crew(0, 0, 0), 0);
        due("nor taken as a cover", x.memberOf(0, 8), 0);
        due("an hour more", x.sick(0, 16), 1);
        due("it is given up", x.crew(0, 0, 0), -5);
    }

    private static void well() {
        FerryCrews x = new FerryCrews();
        due("no member", x.well(0), -1);
        x.member(0, 900);
        x.sailing(0, 20, 4, 1000);
        due("member -1", x.well(-1), -1);
        due("not sick", x.well(0), -5);
        due("not recorded", x.count(11), 2);
        x.give(0, 0, 0);
        due("it gives up", x.sick(0, 30), 1);
        x.pass(4);
        due("hours left", x.well(0), 26);
        due("again", x.well(0), -5);
        due("not sick now", x.count(6), 0);
        due("the place does not come back", x.sailingOf(0, 6), 1);
        due("it can take it", x.why(0, 0, 0), 0);
        due("an act", x.undo(), 3);
        due("sick again", x.memberOf(0, 4), 30);
        x.pass(25);
        due("the last hour", x.well(0), 1);
        x.undo();
        x.pass(1);
        due("it is over", x.well(0), -5);
        FerryCrews y = new FerryCrews();
        y.member(0, 900);
        y.sailing(0, 0, 4, 1000);
        y.sick(0, 7);
        due("in the hour 0", y.well(0), 7);
        due("nobody is sick", y.count(6), 0);
        due("nor up to an hour", y.memberOf(0, 4), -5);
        due("the sailing of the hour 0", y.why(0, 0, 0), 0);
    }
}
