/** Promises 22 to 29: what is told of sailings, crews, members, ladders, rests and hours. */
public final class ToldTest {
    private static final Check CHECK = new Check("ToldTest");

    public static void main(String[] args) {
        sailingOf();
        crew();
        crewOfSailingsThatAreOver();
        memberOf();
        nextSailing();
        ladder();
        rest();
        leastRest();
        leastRestEarliest();
        leastRestFromTheHour0();
        overtime();
        count();
        CHECK.end();
    }

    private static void due(String call, long got, long want) {
        CHECK.due(call, got, want);
    }

    private static void sailingOf() {
        FerryCrews x = Check.withoutRests();
        due("no sailing", x.sailingOf(0, 0), -1);
        x.sailing(4, 7, 5, 1023);
        due("sailing -1, what wrong too", x.sailingOf(-1, -1), -1);
        due("sailing 1", x.sailingOf(1, 0), -1);
        due("sailing of the greatest number", x.sailingOf(Integer.MAX_VALUE, 0), -1);
        due("what -1", x.sailingOf(0, -1), -2);
        due("what 7", x.sailingOf(0, 7), -2);
        int[] told = {0, 4, 7, 12, 1023, 6, 6};
        for (int what = 0; what <= 6; what++) {
            due("what " + what, x.sailingOf(0, what), told[what]);
        }
        x.member(3, 900);
        x.give(0, 0, 3);
        due("one is taken", x.sailingOf(0, 6), 5);
        due("of so many", x.sailingOf(0, 5), 6);
        x.cancel(0);
        due("cancelled", x.sailingOf(0, 0), 2);
        due("all of them", x.sailingOf(0, 6), 6);
        due("how many", x.sailingOf(0, 5), 6);
        x.sailing(4, 7, 5, 1);
        x.give(0, 1, 3);
        x.pass(8);
        due("sailed", x.sailingOf(1, 0), 1);
        due("none free", x.sailingOf(1, 6), 0);
        x.sailing(0, 8, 1, 1000);
        due("by number, not by start", x.sailingOf(2, 2), 8);
        x.sailing(1, 10, 1, 1000);
        x.sailing(2, 9, 1, 1000);
        due("the earlier one that came later", x.sailingOf(4, 2), 9);
        due("the later one that came earlier", x.sailingOf(3, 2), 10);
    }

    private static void crew() {
        FerryCrews x = Check.withoutRests();
        due("no sailing", x.crew(0, 0, 0), -1);
        int[] roles = {2, 0, 3, 0, 2};
        x.sailing(0, 5, 2, 2022);
        for (int n = 0; n < roles.length; n++) {
            x.member(roles[n], 900);
            x.give(n, 0, roles[n]);
        }
        due("sailing -1, all wrong", x.crew(-1, -1, -1), -1);
        due("sailing 1", x.crew(1, 0, 0), -1);
        due("rank -1", x.crew(0, -1, 0), -2);
        due("what -1", x.crew(0, 0, -1), -2);
        due("what 3", x.crew(0, 0, 3), -2);
        due("what 3, and not so many", x.crew(0, 9, 3), -2);
        int[] members = {1, 3, 0, 4, 2};
        for (int rank = 0; rank < members.length; rank++) {
            due("member of rank " + rank, x.crew(0, rank, 0), members[rank]);
            due("role of rank " + rank, x.crew(0, rank, 1), roles[members[rank]]);
            due("begin of rank " + rank, x.crew(0, rank, 2), 4);
        }
        for (int what = 0; what < 3; what++) {
            due("not so many", x.crew(0, 5, what), -5);
            due("of the greatest number", x.crew(0, Integer.MAX_VALUE, what), -5);
        }
    }

    private static void crewOfSailingsThatAreOver() {
        FerryCrews x = Check.withoutRests();
        x.member(0, 900);
        x.sailing(0, 5, 2, 1000);
        x.sailing(1, 9, 2, 1000);
        x.give(0, 0, 0);
        x.give(0, 1, 0);
        x.cancel(1);
        x.pass(20);
        due("one that sailed", x.crew(0, 0, 0), 0);
        due("its duty", x.crew(0, 0, 2), 4);
        due("one that was cancelled", x.crew(1, 0, 0), -5);
        x.set(3, 0);
        due("its duty without a handover", x.crew(0, 0, 2), 5);
    }

    private static void memberOf() {
        FerryCrews x = Check.withoutRests();
        due("no member", x.memberOf(0, 0), -1);
        x.member(2, 900);
        x.member(2, 900);
        due("member -1, what wrong too", x.memberOf(-1, -1), -1);
        due("member 2", x.memberOf(2, 0), -1);
        due("what -1", x.memberOf(0, -1), -2);
        due("what 10", x.memberOf(0, 10), -2);
        x.certify(0, 0, 7);
        int[] told = {7, 0, 900, 0, -5, 0, 0, 0, 0, -5};
        for (int what = 0; what <= 9; what++) {
            due("what " + what, x.memberOf(0, what), told[what]);
        }
        x.sailing(0, 5, 2, 20);
        x.sailing(0, 7, 3, 10);
        x.sailing(1, 20, 4, 10);
        x.give(0, 0, 2);
        x.give(1, 0, 2);
        x.give(0, 1, 2);
        x.give(0, 2, 2);
        due("places on open sailings", x.memberOf(0, 5), 3);
        due("hours of duty", x.memberOf(0, 7), 3 + 3 + 5);
        due("hours of 1", x.memberOf(1, 7), 3);
        x.pass(6);
        due("places on open sailings then", x.memberOf(0, 5), 2);
        due("places on those that sailed", x.memberOf(0, 6), 1);
        due("hours of all", x.memberOf(0, 7), 11);
        x.cancel(1);
        due("places without a cancelled one", x.memberOf(0, 5), 1);
        due("hours without it", x.memberOf(0, 7), 8);
        x.sick(1, 10);
        due("sick up to", x.memberOf(1, 4), 16);
        x.pass(9);
        due("in the last hour", x.memberOf(1, 4), 16);
        due("0 is not sick", x.memberOf(0, 4), -5);
        x.sick(0, 10);
        due("a cover that is well when it starts", x.memberOf(1, 8), 1);
        x.pass(1);
        due("well again", x.memberOf(1, 4), -5);
        x.giveUp(1, 2);
        due("so far", x.memberOf(1, 8), 1);
        x.fill(2);
        due("once more", x.memberOf(1, 8), 2);
        x.giveUp(1, 2);
        x.give(1, 2, 2);
        due("a place that is given is no cover", x.memberOf(1, 8), 2);
    }

    private static void nextSailing() {
        FerryCrews x = Check.withoutRests();
        x.member(0, 900);
        x.sailing(0, 30, 2, 1000);
        x.sailing(1, 20, 2, 1000);
        x.sailing(2, 10, 2, 1000);
        x.sailing(3, 5, 2, 1000);
        due("no place", x.memberOf(0, 9), -5);
        x.give(0, 0, 0);
        x.give(0, 2, 0);
        x.give(0, 1, 0);
        due("by start", x.memberOf(0, 9), 2);
        x.pass(11);
        due("one that sailed is not next", x.memberOf(0, 9), 1);
        x.cancel(1);
        due("nor one that is cancelled", x.memberOf(0, 9), 0);
        x.giveUp(0, 0);
        due("none", x.memberOf(0, 9), -5);
    }

    private static void ladder() {
        FerryCrews x = new FerryCrews();
        due("none at first", x.ladder(3, 0), -5);
        x.member(3, 5);
        x.member(3, 5);
        x.climb(0, 3);
        due("role -1, rank wrong too", x.ladder(-1, -1), -1);
        due("role 4", x.ladder(4, 0), -1);
        due("rank -1", x.ladder(3, -1), -2);
        due("rank of the least number", x.ladder(3, Integer.MIN_VALUE), -2);
        due("the first", x.ladder(3, 0), 1);
        due("the second", x.ladder(3, 1), 0);
        due("not so many", x.ladder(3, 2), -5);
        due("rank 12", x.ladder(3, 12), -5);
        due("rank of the greatest number", x.ladder(3, Integer.MAX_VALUE), -5);
        due("another ladder", x.ladder(0, 0), -5);
        x.leave(0, 3);
        due("one who left", x.ladder(3, 1), -5);
    }

    private static void rest() {
        FerryCrews x = Check.withoutRests();
        due("no member", x.rest(0, 0, 1), -1);
        x.member(0, 990);
        due("member -1, all wrong", x.rest(-1, -1, 0), -1);
        due("member 1", x.rest(1, 0, 1), -1);
        due("from -1", x.rest(0, -1, 5), -2);
        due("from 1001", x.rest(0, 1001, 5), -2);
        due("hours 0", x.rest(0, 0, 0), -2);
        due("hours 169", x.rest(0, 0, 169), -2);
        due("hours of the greatest number", x.rest(0, 1000, Integer.MAX_VALUE), -2);
        x.sailing(0, 10, 4, 1000);
        x.sailing(0, 14, 2, 1000);
        x.sailing(1, 900, 12, 1000);
        for (int n = 0; n < 3; n++) {
            x.give(0, n, 0);
        }
        due("the hour ahead of the handover", x.rest(0, 8, 1), 1);
        due("the handover", x.rest(0, 9, 1), 0);
        due("the last hour", x.rest(0, 15, 1), 0);
        due("the hour behind", x.rest(0, 16, 1), 1);
        due("around it", x.rest(0, 5, 20), 13);
        due("in it", x.rest(0, 9, 7), 0);
        due("168 hours from 0", x.rest(0, 0, 168), 161);
        due("the last sailing", x.rest(0, 899, 13), 0);
        due("around the last sailing", x.rest(0, 890, 30), 17);
        due("the last hours", x.rest(0, 1000, 168), 168);
        x.pass(20);
        due("the one that sailed counts", x.rest(0, 9, 7), 0);
        x.cancel(2);
        due("the one that is cancelled does not", x.rest(0, 890, 30), 30);
    }

    private static void leastRest() {
        FerryCrews x = Check.withoutRests();
        due("no member", x.leastRest(0, 0), -1);
        x.member(0, 990);
        due("member -1, what wrong too", x.leastRest(-1, -1), -1);
        due("member 1", x.leastRest(1, 0), -1);
        due("what -1", x.leastRest(0, -1), -2);
        due("what 3", x.leastRest(0, 3), -2);
        due("without duty", x.leastRest(0, 0), 24);
        due("its first hour", x.leastRest(0, 1), 0);
        due("its long rest", x.leastRest(0, 2), 24);
        x.sailing(0, 40, 5, 1000);
        x.give(0, 0, 0);
        due("6 hours", x.leastRest(0, 0), 18);
        due("the first row with all of them", x.leastRest(0, 1), 21);
        due("9 ahead and 9 behind", x.leastRest(0, 2), 9);
        x.sailing(1, 900, 12, 1000);
        x.give(0, 1, 0);
        due("13 hours", x.leastRest(0, 0), 11);
        due("the first row with these", x.leastRest(0, 1), 888);
        due("5 ahead and 6 behind, or 6 and 5", x.leastRest(0, 2), 6);
        x.giveUp(0, 1);
        x.sailing(2, 0, 12, 1000);
        x.give(0, 2, 0);
        due("12 hours from 0", x.leastRest(0, 0), 12);
        due("from 0 on", x.leastRest(0, 1), 0);
        due("9 ahead and 9 behind, still", x.leastRest(0, 2), 9);
    }

    private static void leastRestEarliest() {
        FerryCrews x = Check.withoutRests();
        x.set(3, 0);
        x.member(0, 990);
        x.sailing(0, 100, 4, 1000);
        x.sailing(1, 50, 4, 1000);
        x.give(0, 0, 0);
        x.give(0, 1, 0);
        due("as many in both", x.leastRest(0, 0), 20);
        due("the earliest row", x.leastRest(0, 1), 30);
        x.sailing(2, 110, 1, 1000);
        x.give(0, 2, 0);
        due("one hour more", x.leastRest(0, 0), 19);
        due("the row that ends with it", x.leastRest(0, 1), 87);
        x.sailing(3, 3, 5, 1000);
        x.give(0, 3, 0);
        due("the row from 0", x.leastRest(0, 1), 0);
        x.sailing(4, 120, 12, 1000);
        x.give(0, 4, 0);
        due("the last one alone", x.leastRest(0, 0), 11);
        due("with one hour of another", x.leastRest(0, 1), 108);
        due("6 ahead and 6 behind, in the row from 114", x.leastRest(0, 2), 6);
    }

    private static void leastRestFromTheHour0() {
        FerryCrews x = Check.withoutRests();
        x.set(3, 0);
        x.member(0, 990);
        x.sailing(0, 0, 4, 1000);
        x.sailing(1, 50, 4, 1000);
        x.give(0, 0, 0);
        x.give(0, 1, 0);
        due("4 hours, and 4 hours", x.leastRest(0, 0), 20);
        due("the row from 0", x.leastRest(0, 1), 0);
        due("10 ahead and 10 behind, in the row from 40", x.leastRest(0, 2), 10);
        x.sailing(2, 26, 2, 1000);
        x.give(0, 2, 0);
        due("the rows from 0, from 4 and from 26", x.leastRest(0, 0), 20);
        due("the row from 0 is the earliest", x.leastRest(0, 1), 0);
    }

    private static void overtime() {
        FerryCrews x = Check.withoutRests();
        due("no member", x.overtime(0, 0), -1);
        x.member(0, 990);
        due("member -1", x.overtime(-1, 0), -1);
        due("member 1", x.overtime(1, 0), -1);
        due("week -1", x.overtime(0, -1), -1);
        due("week 6", x.overtime(0, 6), -1);
        due("week of the greatest number", x.overtime(0, Integer.MAX_VALUE), -1);
        x.set(4, 0);
        x.sailing(0, 163, 10, 1000);
        x.sailing(1, 840, 4, 1000);
        x.sailing(2, 900, 12, 1000);
        for (int n = 0; n < 3; n++) {
            x.give(0, n, 0);
        }
        int[] hours = {6, 5, 0, 0, 1, 4 + 13};
        for (int week = 0; week < 6; week++) {
            due("week " + week, x.overtime(0, week), hours[week]);
        }
        due("in all", x.count(10), 29);
        x.set(4, 5);
        due("5 of 6", x.overtime(0, 0), 1);
        due("5 of 5", x.overtime(0, 1), 0);
        due("5 of 1", x.overtime(0, 4), 0);
        due("5 of 17", x.overtime(0, 5), 12);
        due("weeks do not make up for others", x.count(10), 13);
        x.member(0, 990);
        x.sailing(3, 163, 10, 1000);
        x.give(1, 3, 0);
        due("of all members", x.count(10), 14);
        x.pass(170);
        due("hours that are over", x.overtime(0, 0), 1);
    }

    private static void count() {
        FerryCrews x = Check.withoutRests();
        due("what -1", x.count(-1), -2);
        due("what 18", x.count(18), -2);
        due("what of the greatest number", x.count(Integer.MAX_VALUE), -2);
        due("what of the least number", x.count(Integer.MIN_VALUE), -2);
        x.member(0, 900);
        x.member(0, 900);
        x.member(1, 900);
        x.sailing(0, 5, 2, 1000);
        x.sailing(1, 6, 2, 2000);
        x.sailing(2, 30, 2, 2100);
        x.sailing(3, 40, 2, 3000);
        x.give(0, 0, 0);
        x.fill(2);
        x.give(1, 3, 0);
        due("free places", x.count(7), 0 + 2 + 0 + 2);
        due("taken places", x.count(8), 1 + 0 + 3 + 1);
        due("covers", x.count(9), 3);
        x.pass(10);
        x.sick(2, 5);
        x.sick(1, 1);
        Check.type(x, "abc");
        int[] told = {10, 4, 2, 1, 1, 3, 2, 2, 4, 3, 0, 4, 3, 0, 0, 0, 1, 48};
        for (int what = 0; what < told.length; what++) {
            due("count(" + what + ")", x.count(what), told[what]);
        }
        x.pass(1);
        due("sick now", x.count(6), 1);
        x.cancel(3);
        due("free places without a cancelled one", x.count(7), 0);
        due("taken places without it", x.count(8), 3);
        due("cancelled", x.count(4), 2);
        due("so far", x.count(1), 4);
    }
}
