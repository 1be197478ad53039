/** Promises 11 to 15: places, hours that pass, and settings. */
public final class PlacesTest {
    private static final Check CHECK = new Check("PlacesTest");

    public static void main(String[] args) {
        giveArguments();
        giveReasons();
        giveReasonsInTheirOrder();
        duties();
        dutiesOnEveryFerry();
        restOfADay();
        longRest();
        restOfAWeek();
        rowsBeginAtTheHour0();
        giveUp();
        fill();
        fillByRolesAndLadders();
        passArguments();
        pass();
        passHourByHour();
        settings();
        settingsAndRests();
        CHECK.end();
    }

    private static void due(String call, long got, long want) {
        CHECK.due(call, got, want);
    }

    private static void giveArguments() {
        FerryCrews x = new FerryCrews();
        due("no member", x.give(0, 0, 0), -1);
        x.member(0, 900);
        due("no sailing", x.give(0, 0, 0), -1);
        x.sailing(0, 10, 4, 1000);
        due("member -1", x.give(-1, 0, 0), -1);
        due("member 1", x.give(1, 0, 0), -1);
        due("sailing -1", x.give(0, -1, 0), -1);
        due("sailing 1", x.give(0, 1, 0), -1);
        due("role -1", x.give(0, 0, -1), -1);
        due("role 4", x.give(0, 0, 4), -1);
        due("a reason", x.give(0, 0, 1), 2);
        due("not recorded", x.count(11), 2);
        due("given", x.give(0, 0, 0), 0);
        due("an act", x.undo(), 2);
        due("free again", x.sailingOf(0, 6), 1);
    }

    private static void giveReasons() {
        FerryCrews x = Check.withoutRests();
        x.member(0, 14);
        x.member(0, 13);
        x.member(0, 900);
        x.member(1, 900);
        x.sailing(0, 10, 4, 2100);
        due("a certificate that ends with the sailing", x.give(0, 0, 0), 0);
        due("one that ends an hour earlier", x.give(1, 0, 0), 3);
        due("no certificate of the role", x.give(2, 0, 1), 3);
        due("none of the places of a role", x.give(2, 0, 2), 2);
        x.sick(2, 11);
        due("sick in the first hour", x.give(2, 0, 0), 4);
        x.sick(2, 10);
        due("sick up to the start", x.give(2, 0, 0), 0);
        due("all places taken", x.give(3, 0, 0), 2);
        x.certify(0, 1, 900);
        due("a place on it, of another role", x.give(0, 0, 1), 5);
        x.sailing(1, 13, 4, 1000);
        due("a duty in the last hour", x.give(2, 1, 0), 6);
        x.cancel(1);
        due("cancelled", x.give(2, 1, 0), 1);
        x.give(3, 0, 1);
        x.pass(11);
        due("sailed", x.give(3, 0, 1), 1);
    }

    private static void giveReasonsInTheirOrder() {
        FerryCrews x = Check.withoutRests();
        x.member(0, 900);
        x.sailing(0, 10, 4, 1000);
        x.sailing(1, 11, 4, 2000);
        x.give(0, 0, 0);
        due("rests", x.why(0, 1, 0), 6);
        x.giveUp(0, 0);
        x.give(0, 1, 0);
        due("a place on it, rests would be broken too", x.why(0, 1, 0), 5);
        x.pass(5);
        x.sick(0, 6);
        due("it keeps the place that starts then", x.crew(1, 0, 0), 0);
        due("sick", x.why(0, 0, 0), 4);
        x.certify(0, 0, 15);
        x.member(1, 900);
        x.sick(1, 100);
        due("no certificate, and sick", x.why(1, 0, 0), 3);
        due("no places, no certificate, and sick", x.why(1, 0, 3), 2);
        x.cancel(0);
        due("cancelled, and all of that", x.why(1, 0, 3), 1);
    }

    private static void duties() {
        FerryCrews x = Check.withoutRests();
        x.member(0, 900);
        x.member(0, 900);
        x.sailing(0, 0, 4, 1000);
        x.sailing(0, 4, 4, 2000);
        x.sailing(1, 8, 2, 1000);
        x.sailing(2, 12, 2, 1000);
        x.sailing(2, 14, 2, 1000);
        x.sailing(3, 9, 2, 1000);
        x.give(0, 0, 0);
        due("from the hour 0 on", x.crew(0, 0, 2), 0);
        due("the same ferry goes on", x.give(0, 1, 0), 0);
        due("without a handover", x.crew(1, 0, 2), 4);
        due("another member hands over", x.give(1, 1, 0), 0);
        due("an hour earlier", x.crew(1, 1, 2), 3);
        due("the handover of another ferry is in the last hour", x.give(0, 2, 0), 6);
        due("the handover right behind", x.give(0, 5, 0), 0);
        due("its hour", x.crew(5, 0, 2), 8);
        due("hours of 0", x.memberOf(0, 7), 4 + 4 + 3);
        due("the later of two", x.give(1, 4, 0), 0);
        due("its handover", x.crew(4, 0, 2), 13);
        due("the earlier of two", x.give(1, 3, 0), 0);
        due("takes the handover away", x.crew(4, 0, 2), 14);
        due("given up", x.giveUp(1, 3), 0);
        due("brings it back", x.crew(4, 0, 2), 13);
        x.pass(4);
        due("it sailed", x.sailingOf(0, 0), 1);
        due("one that sailed takes it away too", x.crew(1, 0, 2), 4);
        x.undo();
        x.giveUp(0, 0);
        due("the handover of the second", x.crew(1, 0, 2), 3);
        due("the handover in the hours of a duty", x.why(0, 0, 0), 0);
        x.sailing(4, 1, 2, 1000);
        due("a start at the hour 1", x.give(0, 6, 0), 0);
        due("its handover at the hour 0", x.crew(6, 0, 2), 0);
        due("no rest in the hour 0", x.rest(0, 0, 1), 0);
        due("another duty in that hour", x.why(0, 0, 0), 6);
    }

    private static void dutiesOnEveryFerry() {
        for (int ferry = 0; ferry < 6; ferry++) {
            FerryCrews x = Check.withoutRests();
            x.member(0, 900);
            x.sailing(ferry, 5, 2, 1000);
            x.sailing(ferry, 7, 2, 1000);
            x.sailing((ferry + 1) % 6, 10, 2, 1000);
            for (int n = 0; n < 3; n++) {
                due("a place on " + n + " behind ferry " + ferry, x.give(0, n, 0), 0);
            }
            due("the first of ferry " + ferry, x.crew(0, 0, 2), 4);
            due("the second of ferry " + ferry, x.crew(1, 0, 2), 7);
            due("another than ferry " + ferry, x.crew(2, 0, 2), 9);
            due("their hours", x.memberOf(0, 7), 8);
        }
    }

    /** 10 of 24 hours: 14 hours of duty at the most. */
    private static void restOfADay() {
        FerryCrews x = new FerryCrews();
        x.set(1, 0);
        x.member(0, 900);
        x.sailing(0, 10, 8, 1000);
        x.sailing(1, 28, 4, 1000);
        x.sailing(2, 28, 5, 1000);
        x.sailing(3, 29, 11, 1000);
        x.sailing(4, 28, 11, 1000);
        due("9 hours", x.give(0, 0, 0), 0);
        due("5 more in the row from 9", x.give(0, 1, 0), 0);
        due("the row from 9", x.rest(0, 9, 24), 10);
        x.giveUp(0, 1);
        due("6 more in the row from 9", x.give(0, 2, 0), 6);
        due("6 more in the row from 9, and more behind it", x.give(0, 4, 0), 6);
        due("12 hours, of which no row has more than 14", x.give(0, 3, 0), 0);
        due("the least", x.leastRest(0, 0), 10);
    }

    private static void longRest() {
        FerryCrews x = Check.withoutRests();
        x.set(3, 0);
        x.set(1, 6);
        x.member(0, 900);
        x.sailing(0, 40, 7, 1000);
        x.sailing(1, 53, 7, 1000);
        x.sailing(2, 52, 7, 1000);
        x.sailing(3, 62, 4, 1000);
        x.sailing(4, 62, 5, 1000);
        x.give(0, 0, 0);
        due("5 hours between, and 5 behind in the row from 40", x.give(0, 2, 0), 6);
        due("6 hours between", x.give(0, 1, 0), 0);
        due("the least", x.leastRest(0, 2), 6);
        due("5, 2 and 5 in the row from 48", x.give(0, 4, 0), 6);
        due("5, 2 and 6 in the row from 48", x.give(0, 3, 0), 0);
        due("7 would not hold", x.set(1, 7), -4);
        due("5 would", x.set(1, 5), 6);
    }

    /** 77 of 168 hours: 91 hours of duty at the most, 13 a day. */
    private static void restOfAWeek() {
        FerryCrews x = new FerryCrews();
        x.set(1, 0);
        x.member(0, 900);
        x.sailing(1, 2, 11, 1000);
        for (int day = 1; day < 8; day++) {
            x.sailing(0, 24 * day + 1, 12, 1000);
        }
        for (int day = 1; day < 7; day++) {
            due("day " + day, x.give(0, day, 0), 0);
        }
        due("12 hours more make 90 in the row from 1", x.give(0, 0, 0), 0);
        due("the row from 1 has", x.rest(0, 1, 168), 168 - 90);
        due("13 more", x.give(0, 7, 0), 0);
        due("the row from 1 has then", x.rest(0, 1, 168), 168 - 91);
        due("the row from 13 has", x.rest(0, 13, 168), 168 - 91);
        due("the row from 24 has", x.rest(0, 24, 168), 168 - 91);
        due("78 would not hold", x.set(2, 78), -4);
        due("77 is so already", x.set(2, 77), -5);
        x.sailing(0, 181, 1, 1000);
        due("one hour more", x.give(0, 8, 0), 6);
        x.set(2, 76);
        due("one of 76", x.give(0, 8, 0), 0);
    }

    private static void rowsBeginAtTheHour0() {
        FerryCrews x = Check.withoutRests();
        x.set(3, 0);
        x.set(1, 12);
        x.member(0, 900);
        x.sailing(0, 0, 12, 1000);
        x.sailing(1, 11, 2, 1000);
        x.sailing(2, 12, 1, 1000);
        due("no rest ahead of it is asked for", x.give(0, 0, 0), 0);
        x.giveUp(0, 0);
        due("11 hours ahead and 11 behind, in the row from 0", x.give(0, 1, 0), 6);
        due("12 hours ahead", x.give(0, 2, 0), 0);
        x.giveUp(0, 2);
        x.set(1, 0);
        x.set(0, 12);
        due("12 hours of the row from 0", x.give(0, 0, 0), 0);
        x.set(2, 140);
        due("156 hours of the row from 0", x.count(15), 140);
    }

    private static void giveUp() {
        FerryCrews x = Check.withoutRests();
        due("no member", x.giveUp(0, 0), -1);
        x.member(2, 900);
        x.sailing(0, 10, 4, 10);
        due("member -1", x.giveUp(-1, 0), -1);
        due("member 1", x.giveUp(1, 0), -1);
        due("sailing -1", x.giveUp(0, -1), -1);
        due("sailing 1", x.giveUp(0, 1), -1);
        due("no place", x.giveUp(0, 0), -5);
        due("not recorded", x.undo(), 3);
        x.sailing(0, 10, 4, 10);
        x.give(0, 0, 2);
        due("the role", x.giveUp(0, 0), 2);
        due("again", x.giveUp(0, 0), -5);
        due("free", x.sailingOf(0, 6), 1);
        due("an act", x.undo(), 3);
        due("taken again", x.sailingOf(0, 6), 0);
        x.sailing(1, 12, 4, 10);
        x.cancel(1);
        due("cancelled, no place either", x.giveUp(0, 1), -4);
        x.pass(11);
        due("sailed", x.giveUp(0, 0), -4);
    }

    private static void fill() {
        FerryCrews x = Check.withoutRests();
        due("no sailing", x.fill(0), -1);
        x.member(0, 900);
        x.sailing(0, 10, 4, 2000);
        due("sailing -1", x.fill(-1), -1);
        due("sailing 1", x.fill(1), -1);
        due("one stays free", x.fill(0), 1);
        due("one cover", x.memberOf(0, 8), 1);
        due("it stays free", x.fill(0), 1);
        x.undo();
        x.undo();
        due("an act also if none is covered", x.sailingOf(0, 6), 2);
        x.fill(0);
        x.member(0, 900);
        due("none stays free", x.fill(0), 0);
        due("none is free", x.fill(0), -5);
        due("not recorded", x.undo(), 3);
        due("free again", x.sailingOf(0, 6), 1);
        due("its cover is undone", x.count(9), 1);
        x.cancel(0);
        due("cancelled", x.fill(0), -4);
        x.sailing(1, 20, 4, 1000);
        x.fill(1);
        x.pass(21);
        due("sailed, none is free", x.fill(1), -4);
    }

    private static void fillByRolesAndLadders() {
        FerryCrews x = Check.withoutRests();
        for (int n = 0; n < 4; n++) {
            x.member(1, 900);
        }
        x.certify(2, 0, 900);
        x.climb(2, 0);
        x.climb(0, 1);
        x.sailing(0, 10, 4, 1200);
        due("the ladder of 1 is 1, 2, 3, 0", x.ladder(1, 0), 1);
        due("all are covered", x.fill(0), 0);
        due("role 0 first", x.crew(0, 0, 0), 2);
        due("then 1", x.crew(0, 1, 0), 1);
        due("2 has a place already", x.crew(0, 2, 0), 3);
        x.sailing(1, 20, 4, 100);
        x.give(1, 1, 1);
        due("none is free", x.fill(1), -5);
        x.sailing(2, 30, 4, 1111);
        due("roles 2 and 3 have no ladder", x.fill(2), 2);
        due("who is off the ladder", x.leave(3, 1), 3);
        x.sailing(3, 40, 4, 3);
        due("role 3", x.fill(3), 3);
        x.sailing(4, 50, 4, 300);
        due("is not asked", x.fill(4), 0);
        due("0 comes last", x.crew(4, 0, 0), 0);
        due("covers of 1", x.memberOf(1, 8), 3);
        due("covers of 3", x.memberOf(3, 8), 1);
    }

    private static void passArguments() {
        FerryCrews x = new FerryCrews();
        due("hours 0", x.pass(0), -2);
        due("hours -1", x.pass(-1), -2);
        due("hours 201", x.pass(201), -2);
        due("hours of the greatest number", x.pass(Integer.MAX_VALUE), -2);
        due("not recorded", x.count(11), 0);
        due("one", x.pass(1), 1);
        due("an act", x.count(11), 1);
        for (int turn = 1; turn < 5; turn++) {
            due("200", x.pass(200), 1 + 200 * turn);
        }
        due("200 more", x.pass(200), -3);
        due("201 more", x.pass(201), -2);
        due("up to 1000", x.pass(199), 1000);
        due("one more", x.pass(1), -3);
        due("the hour of now", x.count(0), 1000);
        due("undo", x.undo(), 3);
        due("the hour of now then", x.count(0), 801);
    }

    private static void pass() {
        FerryCrews x = Check.withoutRests();
        x.member(0, 900);
        x.member(0, 900);
        x.sailing(0, 5, 4, 1000);
        x.sailing(1, 5, 4, 2000);
        x.sailing(2, 6, 4, 1000);
        x.give(0, 0, 0);
        x.give(1, 1, 0);
        x.pass(5);
        due("not yet", x.count(2), 3);
        x.pass(1);
        due("all places taken", x.sailingOf(0, 0), 1);
        due("one free", x.sailingOf(1, 0), 2);
        due("its place is given up", x.memberOf(1, 7), 0);
        due("that of the other stays", x.memberOf(0, 7), 5);
        due("the next hour", x.sailingOf(2, 0), 0);
        x.undo();
        due("open again", x.sailingOf(1, 0), 0);
        due("with its place", x.sailingOf(1, 6), 1);
        x.pass(2);
        due("cancelled without anybody", x.sailingOf(2, 0), 2);
        x.sailing(3, 7, 4, 1000);
        x.sailing(4, 207, 4, 1000);
        x.pass(200);
        due("a start now", x.sailingOf(3, 0), 2);
        due("a start then", x.sailingOf(4, 0), 0);
    }

    private static void passHourByHour() {
        FerryCrews x = Check.withoutRests();
        x.member(0, 900);
        for (int n = 0; n < 6; n++) {
            x.sailing(n, 10 * n, 2, 1000);
            if (n % 2 == 0) {
                x.give(0, n, 0);
            }
        }
        due("two hours and a half", x.pass(51), 51);
        for (int n = 0; n < 6; n++) {
            due("sailing " + n, x.sailingOf(n, 0), n % 2 == 0 ? 1 : 2);
        }
    }

    private static void settings() {
        FerryCrews x = new FerryCrews();
        int[] first = {10, 6, 77, 1, 48};
        int[] highest = {20, 12, 140, 1, 100};
        due("which -1", x.set(-1, 5), -2);
        due("which 5", x.set(5, 5), -2);
        due("which of the greatest number", x.set(Integer.MAX_VALUE, 5), -2);
        for (int which = 0; which < 5; which++) {
            due("below the range of " + which, x.set(which, -1), -2);
            due("above the range of " + which, x.set(which, highest[which] + 1), -2);
            due("so already " + which, x.set(which, first[which]), -5);
        }
        due("none is recorded", x.count(11), 0);
        for (int which = 0; which < 5; which++) {
            due("the least of " + which, x.set(which, 0), first[which]);
            due("told", x.count(13 + which), 0);
            due("the highest of " + which, x.set(which, highest[which]), 0);
            due("told", x.count(13 + which), highest[which]);
        }
        due("an act", x.undo(), 3);
        due("undone", x.count(17), 0);
    }

    private static void settingsAndRests() {
        FerryCrews x = Check.withoutRests();
        x.set(3, 0);
        x.member(0, 900);
        x.member(0, 900);
        int[][] hours = {{10, 4}, {14, 6}, {23, 2}, {100, 12}, {130, 4}, {140, 1}};
        for (int n = 0; n < hours.length; n++) {
            x.sailing(n, hours[n][0], hours[n][1], 1000);
            if (n < 3) {
                due("a place on " + n, x.give(1, n, 0), 0);
            }
        }
        due("a handover in the last hour", x.set(3, 1), -4);
        due("12 hours of duty in the row from 10", x.set(0, 13), -4);
        due("just as many", x.set(0, 12), 0);
        due("4 and 5 hours in the row from 6", x.set(1, 6), -4);
        due("just as long", x.set(1, 5), 0);
        due("of a week", x.set(2, 140), 0);
        due("12 more", x.give(1, 3, 0), 0);
        due("28 hours of duty", x.give(1, 4, 0), 0);
        due("29 hours of duty", x.give(1, 5, 0), 6);
        due("a rest less", x.set(2, 139), 140);
        due("29 hours then", x.give(1, 5, 0), 0);
        due("a rest more", x.set(2, 140), -4);
        due("it stays", x.count(15), 139);
        x.set(2, 0);
        due("what does not hold is not recorded", x.undo(), 3);
        due("it stays so", x.count(15), 139);
        x.set(2, 0);
        x.giveUp(1, 0);
        due("13 hours of duty with the handover", x.set(3, 1), -4);
        x.set(0, 11);
        due("no handover in a duty", x.set(3, 1), 0);
        due("without it", x.set(3, 0), 1);
        due("hours of a week have nothing to do with rests", x.set(4, 0), 48);
    }
}
