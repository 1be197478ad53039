/** The section "Terms", sentence by sentence. */
public final class TermsSentencesTest extends Sentences {

    public static void main(String[] args) {
        begin("TermsSentencesTest", TERMS, TERMS);
        promise(TERMS);
        hours();
        settings();
        sailings();
        sets();
        members();
        duties();
        handovers();
        restsAndHours();
        restOfADay();
        longRest();
        restOfAWeek();
        reasons();
        ladders();
        whoIsSick();
        time();
        texts();
        numbersInTexts();
        history();
        state();
        errors();
        nothingChanges();
        constants();
        end();
    }

    private static void hours() {
        says("Hours are numbered from 0", () -> {
            FerryCrews x = plain();
            members(x, 1, 0);
            due("sailing at -1", x.sailing(0, -1, 4, 1000), BAD_VALUE);
            due("sailing at 0", x.sailing(0, 0, 4, 1000), 0);
            due("rest from -1", x.rest(0, -1, 4), BAD_VALUE);
            due("rest from 0", x.rest(0, 0, 4), 4);
            due("its place", x.give(0, 0, 0), 0);
            due("rest from 0 then", x.rest(0, 0, 5), 1);
        });
        says("the hour of now is 0 at first", () -> {
            due("count(0)", new FerryCrews().count(0), 0);
            due("keep()", new FerryCrews().keep(), 0);
            due("pass(1)", new FerryCrews().pass(1), 1);
        });
        says("What lasts from the hour a to the hour b has the hours a, a + 1 and so on up to b - 1", () -> {
            FerryCrews x = plain();
            members(x, 1, 0);
            due("from 10 to 14", duty(x, 0, 0, 10, 4), 0);
            due("its end", x.sailingOf(0, 3), 14);
            due("the hour 9", x.rest(0, 9, 1), 1);
            due("the hour 10", x.rest(0, 10, 1), 0);
            due("the hour 13", x.rest(0, 13, 1), 0);
            due("the hour 14", x.rest(0, 14, 1), 1);
            due("another from 13", x.sailing(0, 13, 2, 1000), NOT_POSSIBLE);
            due("another from 14", x.sailing(0, 14, 2, 1000), 1);
            due("another up to 11", x.sailing(0, 8, 3, 1000), NOT_POSSIBLE);
            due("another up to 10", x.sailing(0, 8, 2, 1000), 2);
        });
    }

    private static void settings() {
        says("The settings are (in parentheses: range; first value): 0 the rest of a day (0 to 20; 10), 1 the long rest "
            + "(0 to 12; 6), 2 the rest of a week (0 to 140; 77), 3 the handover (0 or 1; 1), 4 the hours of a week "
            + "(0 to 100; 48)", () -> {
                int[] first = {10, 6, 77, 1, 48};
                int[] highest = {20, 12, 140, 1, 100};
                for (int which = 0; which < 5; which++) {
                    FerryCrews x = new FerryCrews();
                    due("first value of " + which, x.count(13 + which), first[which]);
                    due("below the range of " + which, x.set(which, -1), BAD_VALUE);
                    due("above the range of " + which, x.set(which, highest[which] + 1), BAD_VALUE);
                    due("the first value again", x.set(which, first[which]), NONE);
                    due("the least of " + which, x.set(which, 0), first[which]);
                    due("it is told", x.count(13 + which), 0);
                    due("the highest of " + which, x.set(which, highest[which]), 0);
                    due("it is told", x.count(13 + which), highest[which]);
                }
            });
    }

    private static void sailings() {
        says("There are 6 ferries, 0 to 5, and 4 roles, 0 to 3", () -> {
            FerryCrews x = new FerryCrews();
            due("ferry -1", x.sailing(-1, 10, 4, 1111), UNKNOWN);
            due("ferry 6", x.sailing(6, 10, 4, 1111), UNKNOWN);
            for (int ferry = 0; ferry < 6; ferry++) {
                due("ferry " + ferry, x.sailing(ferry, 10, 4, 1111), ferry);
                due("it is told", x.sailingOf(ferry, 1), ferry);
            }
            due("role -1", x.member(-1, 900), UNKNOWN);
            due("role 4", x.member(4, 900), UNKNOWN);
            for (int role = 0; role < 4; role++) {
                due("role " + role, x.member(role, 900), role);
                due("its place", x.give(role, role, role), 0);
            }
        });
        says("A sailing has a number (from 0, in the order in which they came; at most 48 ever), a ferry, the hour at which "
            + "it starts (up to 900), hours that it lasts (1 to 12), and a set: of each role how many places there are "
            + "(0 to 3; at least one in all)", () -> {
                FerryCrews x = new FerryCrews();
                due("start 901", x.sailing(0, 901, 1, 1), BAD_VALUE);
                due("0 hours", x.sailing(0, 900, 0, 1), BAD_VALUE);
                due("13 hours", x.sailing(0, 900, 13, 1), BAD_VALUE);
                due("no places", x.sailing(0, 900, 12, 0), BAD_VALUE);
                due("4 places of a role", x.sailing(0, 900, 12, 4), BAD_VALUE);
                due("start 900, 12 hours, one place", x.sailing(0, 900, 12, 1), 0);
                due("1 hour, 3 places of each role", x.sailing(0, 500, 1, 3333), 1);
                due("its places", x.sailingOf(1, 5), 12);
                for (int n = 2; n < 48; n++) {
                    due("sailing " + n, x.sailing(0, 500 - n, 1, 3000), n);
                }
                due("by number, not by start", x.sailingOf(47, 2), 453);
                due("the 49th", x.sailing(5, 900, 1, 1), FULL);
                x.cancel(47);
                due("48 ever", x.sailing(5, 900, 1, 1), FULL);
            });
        says("It is open (0), sailed (1) or cancelled (2)", () -> {
            FerryCrews x = plain();
            members(x, 1, 0);
            x.sailing(0, 0, 4, 1000);
            x.sailing(1, 0, 4, 1000);
            x.sailing(2, 5, 4, 1000);
            due("at first", x.sailingOf(0, 0), 0);
            x.give(0, 0, 0);
            x.cancel(2);
            due("cancelled", x.sailingOf(2, 0), 2);
            x.pass(1);
            due("with its set", x.sailingOf(0, 0), 1);
            due("below its set", x.sailingOf(1, 0), 2);
        });
        says("No two sailings of a ferry that are not cancelled have an hour in common", () -> {
            FerryCrews x = plain();
            members(x, 1, 0);
            duty(x, 0, 0, 0, 4);
            x.sailing(1, 0, 4, 1000);
            due("with an open one", x.sailing(0, 3, 1, 1000), NOT_POSSIBLE);
            x.pass(1);
            due("with one that sailed", x.sailing(0, 3, 1, 1000), NOT_POSSIBLE);
            due("with one that did not sail", x.sailing(1, 3, 1, 1000), 2);
            due("of another ferry", x.sailing(2, 3, 1, 1000), 3);
            due("behind", x.sailing(0, 4, 1, 1000), 4);
            x.cancel(4);
            due("where a cancelled one was", x.sailing(0, 4, 1, 1000), 5);
        });
    }

    private static void sets() {
        says("The set is told as a number of four decimal digits, that of the role 0 first (so 1012 is one place of the "
            + "role 0, none of the role 1, one of the role 2 and two of the role 3)", () -> {
                FerryCrews x = plain();
                for (int n = 0; n < 4; n++) {
                    x.member(0, 900);
                    for (int role = 1; role < 4; role++) {
                        x.certify(n, role, 900);
                    }
                }
                x.sailing(0, 10, 4, 1012);
                due("told", x.sailingOf(0, 4), 1012);
                due("its places", x.sailingOf(0, 5), 4);
                due("one of the role 0", x.give(0, 0, 0), 0);
                due("no more", x.why(1, 0, 0), 2);
                due("none of the role 1", x.why(1, 0, 1), 2);
                due("one of the role 2", x.give(1, 0, 2), 0);
                due("no more", x.why(2, 0, 2), 2);
                due("one of the role 3", x.give(2, 0, 3), 0);
                due("two of the role 3", x.give(3, 0, 3), 0);
                due("none is free", x.sailingOf(0, 6), 0);
                x.sailing(0, 20, 4, 20);
                due("20 is told", x.sailingOf(1, 4), 20);
                due("20 is of the role 2", x.why(0, 1, 2), 0);
                due("and of no other", x.why(0, 1, 1), 2);
            });
    }

    private static void members() {
        says("There are at most 12 members, numbered from 0 in the order in which they came", () -> {
            FerryCrews x = new FerryCrews();
            for (int n = 0; n < 12; n++) {
                due("no member " + n, x.memberOf(n, 0), UNKNOWN);
                due("member " + n, x.member(n % 4, 100 + n), n);
                due("its certificate", x.memberOf(n, n % 4), 100 + n);
            }
            due("the 13th", x.member(0, 900), FULL);
            due("no member 12", x.memberOf(12, 0), UNKNOWN);
        });
        says("A member has for each role a certificate with an hour at which it ends, or none", () -> {
            FerryCrews x = new FerryCrews();
            x.member(2, 70);
            x.certify(0, 0, 50);
            x.certify(0, 3, 9999);
            due("role 0", x.memberOf(0, 0), 50);
            due("role 1", x.memberOf(0, 1), 0);
            due("role 2", x.memberOf(0, 2), 70);
            due("role 3", x.memberOf(0, 3), 9999);
        });
        says("and may be sick until some hour (from the hour of now on, up to the hour ahead of that)", () -> {
            FerryCrews x = new FerryCrews();
            x.member(0, 900);
            x.pass(3);
            due("not sick", x.count(6), 0);
            x.sick(0, 2);
            due("until 5", x.memberOf(0, 4), 5);
            due("in the hour 3", x.count(6), 1);
            x.pass(1);
            due("in the hour 4", x.count(6), 1);
            due("until 5 still", x.memberOf(0, 4), 5);
            x.pass(1);
            due("in the hour 5", x.count(6), 0);
            due("until no hour", x.memberOf(0, 4), NONE);
        });
        says("A member can have a place of a role on a sailing (one place on a sailing at most)", () -> {
            FerryCrews x = plain();
            x.member(1, 900);
            x.certify(0, 2, 900);
            x.sailing(0, 10, 4, 220);
            due("a place", x.give(0, 0, 1), 0);
            due("one more of the role", x.give(0, 0, 1), 5);
            due("one more of another role", x.give(0, 0, 2), 5);
            due("its role", x.crew(0, 0, 1), 1);
            due("one place is taken", x.sailingOf(0, 6), 3);
        });
    }

    private static void duties() {
        says("The duty of this place lasts from the start to the end of the sailing", () -> {
            FerryCrews x = plain();
            members(x, 1, 0);
            due("12 hours from 0", duty(x, 0, 0, 0, 12), 0);
            due("1 hour from 20", duty(x, 0, 1, 20, 1), 0);
            due("12 hours from 900", duty(x, 0, 2, 900, 12), 0);
            due("begin of the first", x.crew(0, 0, 2), 0);
            due("begin of the second", x.crew(1, 0, 2), 20);
            due("begin of the last", x.crew(2, 0, 2), 900);
            due("hours in all", x.memberOf(0, 7), 25);
            due("rest from 0 to 13", x.rest(0, 0, 13), 1);
            due("rest from 19 to 22", x.rest(0, 19, 3), 2);
            due("rest from 899 to 913", x.rest(0, 899, 14), 2);
        });
        says("(A place that is given up, or cancelled, never makes rests worse: the hour by which a later duty begins "
            + "earlier then was an hour of the duty that ended.)", () -> {
                for (int turn = 0; turn < 2; turn++) {
                    FerryCrews x = withoutRests();
                    members(x, 1, 0);
                    duty(x, 0, 0, 10, 4);
                    duty(x, 0, 0, 14, 4);
                    due("hours from 9 to 18", x.rest(0, 9, 9), 0);
                    due("the rest of a day", x.leastRest(0, 0), 15);
                    due("the long rest", x.leastRest(0, 2), 8);
                    due("begin of the later duty", x.crew(1, 0, 2), 14);
                    due("given up, or cancelled", turn == 0 ? x.giveUp(0, 0) + 1 : x.cancel(0), 1);
                    due("begin of the later duty then", x.crew(1, 0, 2), 13);
                    due("the rest of a day then", x.leastRest(0, 0), 19);
                    due("the long rest then", x.leastRest(0, 2), 10);
                }
            });
    }

    private static void handovers() {
        says("it begins an hour earlier if the handover is 1 and the start is not the hour 0, unless the member has a place "
            + "on a sailing of the same ferry that is not cancelled and ends at the hour of the start", () -> {
                begins("at 10", 9, withHandover(10));
                begins("at 1", 0, withHandover(1));
                begins("at 0", 0, withHandover(0));
                FerryCrews without = withHandover(10);
                without.set(3, 0);
                begins("without a handover", 10, without);
                behindAnother();
                behindTheSameFerry();
            });
    }

    /** Sailing 0 of ferry 0, for two hours, has member 0. */
    private static FerryCrews withHandover(int start) {
        FerryCrews x = withoutRests();
        members(x, 2, 0);
        duty(x, 0, 0, start, 2);
        return x;
    }

    private static void begins(String what, int hour, FerryCrews x) {
        due("begin " + what, x.crew(0, 0, 2), hour);
        due("no rest from there " + what, x.rest(0, hour, x.sailingOf(0, 3) - hour), 0);
        due("hours of duty " + what, x.memberOf(0, 7), x.sailingOf(0, 3) - hour);
    }

    private static void behindAnother() {
        FerryCrews x = withHandover(10);
        due("another ferry, up to the start", duty(x, 0, 1, 8, 2), 6);
        due("another ferry, up to the hour ahead of it", duty(x, 0, 2, 7, 2), 0);
        due("begin", x.crew(0, 0, 2), 9);
        FerryCrews y = withHandover(10);
        due("the same ferry, up to the hour ahead", duty(y, 0, 0, 8, 1), 0);
        due("begin", y.crew(0, 0, 2), 9);
        FerryCrews z = withHandover(10);
        due("the same ferry, with another member", duty(z, 1, 0, 8, 2), 0);
        due("begin", z.crew(0, 0, 2), 9);
        FerryCrews w = withHandover(10);
        due("the same ferry, behind", duty(w, 0, 0, 12, 2), 0);
        due("begin", w.crew(0, 0, 2), 9);
        due("begin of the one behind", w.crew(1, 0, 2), 12);
    }

    private static void behindTheSameFerry() {
        for (int ferry = 0; ferry < 6; ferry++) {
            FerryCrews x = withoutRests();
            x.member(0, 900);
            x.certify(0, 1, 900);
            duty(x, 0, ferry, 10, 2);
            x.sailing(ferry, 8, 2, 100);
            due("of another role", x.give(0, 1, 1), 0);
            due("begin behind ferry " + ferry, x.crew(0, 0, 2), 10);
            due("hours of duty", x.memberOf(0, 7), 5);
            x.cancel(1);
            due("begin behind a cancelled one", x.crew(0, 0, 2), 9);
        }
        FerryCrews y = withoutRests();
        members(y, 1, 0);
        duty(y, 0, 0, 0, 2);
        duty(y, 0, 0, 2, 2);
        y.pass(1);
        due("it sailed", y.sailingOf(0, 0), 1);
        due("begin behind one that sailed", y.crew(1, 0, 2), 2);
        due("hours of duty", y.memberOf(0, 7), 4);
    }

    private static void restsAndHours() {
        says("The rests of a member hold if no two duties of its places on sailings that are not cancelled have an hour in "
            + "common, and", () -> {
                FerryCrews x = plain();
                members(x, 1, 0);
                duty(x, 0, 0, 10, 4);
                due("in the last hour", duty(x, 0, 1, 13, 2), 6);
                due("in the first hour", duty(x, 0, 1, 8, 3), 6);
                due("in an hour between", duty(x, 0, 1, 11, 1), 6);
                due("around it", duty(x, 0, 2, 9, 6), 6);
                due("right behind", duty(x, 0, 3, 14, 2), 0);
                due("right before", duty(x, 0, 3, 8, 2), 0);
                x.cancel(0);
                due("with a cancelled one", x.give(0, 3, 0), 0);

                FerryCrews y = withHandover(10);
                due("its end in the handover", duty(y, 0, 1, 8, 2), 6);
                due("its end ahead of the handover", duty(y, 0, 2, 7, 2), 0);
                due("its handover in the last hour", duty(y, 0, 3, 12, 2), 6);
                due("its handover behind", duty(y, 0, 4, 13, 2), 0);

                FerryCrews z = plain();
                members(z, 1, 0);
                duty(z, 0, 0, 0, 4);
                z.pass(1);
                due("with one that sailed", duty(z, 0, 1, 3, 2), 6);
                due("behind one that sailed", duty(z, 0, 2, 4, 2), 0);
            });
    }

    private static void restOfADay() {
        says("in each row of 24 hours one after the other, those without duty are at least as many as the setting 0,", () -> {
            FerryCrews x = plain();
            members(x, 1, 0);
            x.set(0, 10);
            duty(x, 0, 0, 10, 12);
            due("15 hours", duty(x, 0, 1, 22, 3), 6);
            due("14 hours", duty(x, 0, 2, 22, 2), 0);
            due("one more, the last of a row", duty(x, 0, 3, 33, 1), 6);
            due("one more, an hour later", duty(x, 0, 3, 34, 1), 0);
            due("a row of 24", x.rest(0, 10, 24), 10);

            FerryCrews y = plain();
            members(y, 1, 0);
            y.set(0, 10);
            duty(y, 0, 0, 30, 12);
            duty(y, 0, 1, 42, 2);
            due("one more, the first of a row", duty(y, 0, 2, 20, 1), 6);
            due("one more, an hour earlier", duty(y, 0, 2, 19, 1), 0);
            due("one more in between", duty(y, 0, 3, 26, 1), 6);

            FerryCrews z = plain();
            members(z, 1, 0);
            duty(z, 0, 0, 0, 12);
            due("24 hours, and no rest asked for", duty(z, 0, 1, 12, 12), 0);
        });
    }

    private static void longRest() {
        says("in each row of 24 hours one after the other, there are as many hours without duty one after the other as the "
            + "setting 1, or more (all of them of this row),", () -> {
                FerryCrews x = plain();
                members(x, 1, 0);
                x.set(1, 6);
                duty(x, 0, 0, 6, 12);
                due("5 and 5 in the row from 1", duty(x, 0, 1, 23, 2), 6);
                due("5, 5 and 1 in the row from 1", duty(x, 0, 2, 23, 1), 6);
                due("5 and 6 in the row from 1", duty(x, 0, 2, 24, 2), 0);

                FerryCrews y = plain();
                members(y, 1, 0);
                y.set(1, 1);
                duty(y, 0, 0, 11, 12);
                due("23 hours", duty(y, 0, 1, 23, 11), 0);
                due("the one ahead", duty(y, 0, 2, 10, 1), 6);
                due("the one behind", duty(y, 0, 3, 34, 1), 6);
                due("the second one ahead", duty(y, 0, 2, 9, 1), 0);
                due("the second one behind", duty(y, 0, 3, 35, 1), 0);

                FerryCrews z = plain();
                members(z, 1, 0);
                z.set(1, 12);
                due("12 hours with 12 ahead", duty(z, 0, 0, 12, 12), 6);
                due("12 hours from 0 on", duty(z, 0, 1, 0, 12), 0);
            });
        says("(Rows of hours begin at the hour 0 or later.)", () -> {
            FerryCrews x = plain();
            members(x, 1, 0);
            x.set(1, 6);
            duty(x, 0, 0, 6, 12);
            due("13 hours, 6 ahead", duty(x, 0, 1, 18, 1), 0);
            due("5 and 5 in the row from 0", duty(x, 0, 2, 0, 1), 6);
            x.set(1, 5);
            due("5 are enough", x.why(0, 2, 0), 0);

            FerryCrews y = plain();
            members(y, 1, 0);
            y.set(0, 12);
            y.set(1, 12);
            due("12 of the first 24 hours", duty(y, 0, 0, 0, 12), 0);
            due("the first row", y.leastRest(0, 1), 0);
            due("its long rest", y.leastRest(0, 2), 12);
        });
    }

    private static void restOfAWeek() {
        says("in each row of 168 hours one after the other, those without duty are at least as many as the setting 2", () -> {
            FerryCrews x = plain();
            members(x, 1, 0);
            x.set(2, 77);
            for (int day = 0; day < 7; day++) {
                due("12 hours of day " + day, duty(x, 0, 0, 24 * day, 12), 0);
            }
            due("8 hours more", duty(x, 0, 1, 156, 8), 6);
            due("7 hours more", duty(x, 0, 2, 156, 7), 0);
            due("one more, the last of the row from 0", duty(x, 0, 3, 167, 1), 6);
            due("one more, an hour later", duty(x, 0, 3, 168, 1), 0);
            due("the row from 0", x.rest(0, 0, 168), 77);
            due("the row from 1", x.rest(0, 1, 168), 77);

            FerryCrews y = plain();
            members(y, 1, 0);
            y.set(2, 77);
            for (int day = 0; day < 7; day++) {
                duty(y, 0, 0, 6 + 24 * day, 12);
            }
            due("7 hours more", duty(y, 0, 1, 166, 7), 0);
            due("one more, the first of the row from 5", duty(y, 0, 2, 5, 1), 6);
            due("one more, an hour earlier", duty(y, 0, 2, 4, 1), 0);
        });
    }

    private static void reasons() {
        says("A member can take a place of a role on a sailing, if none of these holds", () -> {
            FerryCrews x = harbour();
            due("why", x.why(1, 2, 0), 0);
            due("able", x.able(2, 0), 2);
            due("give", x.give(1, 2, 0), 0);
            due("it has it", x.crew(2, 1, 0), 1);
        });
        says("they are asked in this order, and the first one is the reason: 1 the sailing is not open, or its start is "
            + "earlier than the hour of now", () -> {
                FerryCrews x = harbour();
                due("sailed, it has a place", x.why(0, 0, 0), 1);
                due("sailed, all places taken, no certificate", x.why(2, 0, 0), 1);
                due("sailed, no places of the role, sick", x.why(3, 0, 1), 1);
                due("cancelled, all its places free", x.why(0, 1, 0), 1);
                x.cancel(2);
                due("cancelled ahead of its start", x.why(1, 2, 0), 1);
                FerryCrews y = plain();
                members(y, 1, 0);
                y.sailing(0, 5, 4, 1000);
                y.pass(5);
                due("its start is now", y.why(0, 0, 0), 0);
                y.pass(1);
                due("its start was an hour ago", y.why(0, 0, 0), 1);
            });
        says("2 all places of the role are taken", () -> {
            FerryCrews x = harbour();
            due("one of two", x.why(1, 2, 0), 0);
            due("one of one", x.why(1, 3, 0), 2);
            due("there are none", x.why(1, 3, 2), 2);
            due("no certificate either", x.why(2, 3, 0), 2);
            x.sick(3, 400);
            due("sick too", x.why(3, 3, 2), 2);
            x.sailing(4, 31, 2, 1000);
            x.give(0, 4, 0);
            due("rests would not hold either", x.why(0, 3, 0), 2);
            x.giveUp(1, 3);
            due("it is free again", x.why(1, 3, 0), 0);
            FerryCrews y = SailingsSentencesTest.wholeCrew();
            for (int role = 0; role < 4; role++) {
                due("three of three", y.why(11 - 3 * role, 0, role), 2);
            }
        });
        reasons3to6();
    }

    private static void reasons3to6() {
        says("3 the member has no certificate of the role, or that ends earlier than the sailing", () -> {
            FerryCrews x = plain();
            x.member(0, 14);
            x.member(0, 13);
            x.member(1, 9999);
            x.member(0, 0);
            x.sailing(0, 10, 4, 3100);
            due("it ends with the sailing", x.why(0, 0, 0), 0);
            due("it ends an hour earlier", x.why(1, 0, 0), 3);
            due("of another role", x.why(2, 0, 0), 3);
            due("it ends at 0", x.why(3, 0, 0), 3);
            x.sick(1, 400);
            due("sick too", x.why(1, 0, 0), 3);
            x.give(0, 0, 0);
            due("it has a place on it", x.why(0, 0, 1), 3);
            x.sailing(1, 13, 4, 1000);
            due("rests would not hold either", x.why(0, 1, 0), 3);
        });
        says("4 the member is sick in an hour that the sailing has", () -> {
            FerryCrews x = withoutRests();
            members(x, 1, 0);
            x.sailing(0, 10, 4, 1000);
            x.sick(0, 11);
            due("in the first hour", x.why(0, 0, 0), 4);
            x.sick(0, 10);
            due("in the hour of the handover", x.why(0, 0, 0), 0);
            x.sick(0, 400);
            due("in all hours", x.why(0, 0, 0), 4);
            x.pass(10);
            x.sick(0, 1);
            due("in the hour of now, the first", x.why(0, 0, 0), 4);
            x.well(0);
            due("not any more", x.why(0, 0, 0), 0);
            x.sailing(1, 12, 4, 1000);
            x.give(0, 1, 0);
            x.sick(0, 1);
            due("rests would not hold either", x.why(0, 0, 0), 4);
        });
        says("5 the member has a place on it", () -> {
            FerryCrews x = plain();
            x.member(0, 900);
            x.certify(0, 1, 900);
            x.sailing(0, 10, 4, 2100);
            x.give(0, 0, 0);
            due("of the role", x.why(0, 0, 0), 5);
            due("of another role", x.why(0, 0, 1), 5);
            x.giveUp(0, 0);
            due("not any more", x.why(0, 0, 1), 0);
        });
        says("6 the rests of the member would not hold", () -> {
            FerryCrews x = new FerryCrews();
            members(x, 2, 0);
            due("13 hours", duty(x, 0, 0, 10, 12), 0);
            due("3 more of the row", duty(x, 0, 1, 30, 2), 6);
            due("another member", x.why(1, 1, 0), 0);
            x.giveUp(0, 0);
            due("without the first", x.why(0, 1, 0), 0);
        });
    }

    private static void ladders() {
        says("The ladder of a role is a row of members, none at first", () -> {
            FerryCrews x = new FerryCrews();
            for (int role = 0; role < 4; role++) {
                due("none at first", x.ladder(role, 0), NONE);
            }
            members(x, 12, 1);
            for (int n = 0; n < 12; n++) {
                due("rank " + n, x.ladder(1, n), n);
                due("on another ladder too", x.climb(11 - n, 3), n + 1);
            }
            for (int n = 0; n < 12; n++) {
                due("rank " + n + " of the other", x.ladder(3, n), 11 - n);
            }
            due("none behind", x.ladder(1, 12), NONE);
            due("none on a third", x.ladder(2, 0), NONE);
        });
        says("To cover a place of a role on a sailing is to go through the ladder of the role: the first member who can take "
            + "the place takes it", () -> {
                FerryCrews x = plain();
                members(x, 4, 0);
                x.climb(0, 0);
                x.climb(1, 0);
                for (int n = 0; n < 4; n++) {
                    x.sailing(n, 10 + n, 6, 1000);
                }
                x.sick(0, 13);
                due("covered", x.fill(0), 0);
                due("by the first of the ladder", x.crew(0, 0, 0), 2);
                due("covered", x.fill(1), 0);
                due("by the next, as rests of the first would not hold", x.crew(1, 0, 0), 3);
                due("covered", x.fill(2), 0);
                due("by the last, as one is sick", x.crew(2, 0, 0), 1);
                due("covered", x.fill(3), 0);
                due("by the one who is well then", x.crew(3, 0, 0), 0);
            });
        says("If there is none, it stays free", () -> {
            FerryCrews x = plain();
            x.sailing(0, 10, 4, 2100);
            due("no members", x.fill(0), 3);
            members(x, 2, 0);
            x.certify(0, 1, 900);
            x.leave(1, 0);
            due("one on the ladder, none on the other", x.fill(0), 2);
            due("they stay free", x.sailingOf(0, 6), 2);
            due("one has a place", x.crew(0, 1, 0), NONE);
        });
    }

    private static void whoIsSick() {
        says("When a member is told to be sick for some hours, it is sick from the hour of now on for so many hours (in place "
            + "of what was told earlier)", () -> {
                FerryCrews x = plain();
                members(x, 1, 0);
                x.pass(3);
                x.sailing(0, 7, 4, 1000);
                x.sick(0, 5);
                due("until 8", x.memberOf(0, 4), 8);
                due("in the hour 7", x.why(0, 0, 0), 4);
                x.sick(0, 4);
                due("until 7", x.memberOf(0, 4), 7);
                due("not in the hour 7", x.why(0, 0, 0), 0);
                x.sick(0, 400);
                due("until 403", x.memberOf(0, 4), 403);
                x.pass(2);
                x.sick(0, 1);
                due("until 6", x.memberOf(0, 4), 6);
            });
        says("It gives up its places on all open sailings that start at the hour of now or later and have an hour in which it "
            + "is sick: first all of them, then each is covered, by the hours at which the sailings start, of several by the "
            + "numbers of the sailings", () -> {
                placesGivenUp();
                coveredByStart();
            });
    }

    private static void placesGivenUp() {
        FerryCrews x = withoutRests();
        members(x, 1, 0);
        duty(x, 0, 0, 0, 10);
        duty(x, 0, 0, 12, 2);
        duty(x, 0, 0, 10, 2);
        duty(x, 0, 0, 14, 2);
        x.pass(10);
        due("up to the start of the last", x.sick(0, 4), 2);
        due("one that sailed, and is under way", x.crew(0, 0, 0), 0);
        due("one that starts now", x.crew(2, 0, 0), NONE);
        due("one that starts later", x.crew(1, 0, 0), NONE);
        due("one that starts when it is well", x.crew(3, 0, 0), 0);
        due("its handover is in the hours of being sick", x.crew(3, 0, 2), 13);
        due("an hour more", x.sick(0, 5), 1);
        due("the last", x.crew(3, 0, 0), NONE);
    }

    /**
     * Member 1 can take each of both places, but not both: 16 hours of the row from 1 on would be too many.
     * No member has two places that start in the same hour, so numbers of sailings never decide.
     */
    private static void coveredByStart() {
        FerryCrews x = plain();
        members(x, 2, 0);
        x.set(0, 12);
        duty(x, 0, 0, 20, 6);
        duty(x, 0, 1, 10, 6);
        duty(x, 1, 2, 1, 5);
        due("one of them stays free", x.sick(0, 100), 1);
        due("the one that starts first is covered", x.crew(1, 0, 0), 1);
        due("not the one of the lower number", x.crew(0, 0, 0), NONE);
        due("the cover counts", x.memberOf(1, 8), 1);
    }

    private static void time() {
        says("When an hour passes, each open sailing that starts at the hour of now sails if all its places are taken (it is "
            + "sailed)", () -> {
                FerryCrews x = plain();
                members(x, 4, 0);
                x.sailing(0, 3, 4, 2000);
                x.give(0, 0, 0);
                x.give(1, 0, 0);
                duty(x, 2, 1, 3, 1);
                duty(x, 3, 2, 4, 1);
                x.pass(3);
                due("not yet", x.count(2), 3);
                x.pass(1);
                due("the first", x.sailingOf(0, 0), 1);
                due("the second", x.sailingOf(1, 0), 1);
                due("the one that starts now", x.sailingOf(2, 0), 0);
                due("its crew stays", x.sailingOf(0, 6), 0);
                due("places on sailings that sailed", x.memberOf(1, 6), 1);
            });
        says("otherwise it is cancelled, and its places are given up", () -> {
            FerryCrews x = plain();
            members(x, 4, 0);
            x.sailing(0, 3, 4, 3000);
            x.give(0, 0, 0);
            x.give(1, 0, 0);
            x.sailing(1, 3, 4, 1);
            x.pass(3);
            due("not yet", x.count(2), 2);
            due("with two places taken", x.memberOf(0, 5), 1);
            x.pass(1);
            due("one place was free", x.sailingOf(0, 0), 2);
            due("all were free", x.sailingOf(1, 0), 2);
            due("all are free", x.sailingOf(0, 6), 3);
            due("no duty is left", x.memberOf(1, 7), 0);
            due("nobody has a place", x.crew(0, 0, 0), NONE);
        });
        says("Then the hour of now is 1 more", () -> {
            FerryCrews x = new FerryCrews();
            due("one", x.pass(1), 1);
            due("told", x.count(0), 1);
            due("one more", x.pass(1), 2);
            due("a start that is over", x.sailing(0, 1, 4, 1000), BAD_VALUE);
            due("a start now", x.sailing(0, 2, 4, 1000), 0);
        });
    }

    private static int faultOf(String text) {
        FerryCrews x = new FerryCrews();
        type(x, text);
        return x.fault();
    }

    private static void fault(String text, int want) {
        due("fault of " + text, faultOf(text), want);
    }

    private static void texts() {
        says("There is a text of at most 60 characters, empty at first", () -> {
            FerryCrews x = new FerryCrews();
            due("empty", x.count(12), 0);
            for (int length = 1; length <= 60; length++) {
                due("type", x.type('0'), length);
            }
            due("one more", x.type('0'), FULL);
            due("its length", x.count(12), 60);
        });
        says("A text of sailings is one or more sailings with \";\" between two: the ferry (0 to 5), \":\", the start "
            + "(0 to 900), \"+\", the hours (1 to 12), \"=\", and four digits 0 to 3", () -> {
                fault("0:0+1=0001", NONE);
                fault("5:900+12=3333", NONE);
                fault("0:0+1=0001;5:900+12=3333", NONE);
                fault("0:0+1=0001;0:0+1=0001;0:0+1=0001;0:0+1=0001;0:0+1=0001", NONE);
                fault("6:0+1=0001", 0);
                fault("a:0+1=0001", 0);
                fault("0;0+1=0001", 1);
                fault("0:a+1=0001", 2);
                fault("0:901+1=0001", 4);
                fault("0:0:1=0001", 3);
                fault("0:0+0=0001", 4);
                fault(":0+1=0001", 0);
                fault("0:+1=0001", 2);
                fault("0:0+=0001", 4);
                fault("0:0+1=;", 6);
                fault("0:0+13=0001", 5);
                fault("0:0+1+0001", 5);
                fault("0:0+1=4001", 6);
                fault("0:0+1=0004", 9);
                fault("0:0+1=00:1", 8);
                fault("0:0+1=000/", 9);
                fault("0:0+1=00010", 10);
                fault("0:0+1=0001:", 10);
                fault(";0:0+1=0001", 0);
                fault("0:0+1=0001;;", 11);
            });
        says("The fault of the text is the index, from 0, of the first character that is not allowed at its place, or the "
            + "length of the text if it ends too early (the empty text does)", () -> {
                fault("", 0);
                String text = "5:900+12=3333;0:89+1=0000";
                for (int length = 0; length < text.length(); length++) {
                    boolean isWhole = length == 13;
                    fault(text.substring(0, length), isWhole ? NONE : length);
                    fault(text.substring(0, length) + "x9", length);
                }
                fault("x", 0);
                fault("6:901+13=4444", 0);
                fault("5:901+13=4444", 4);
                String full = "5:900+12=3333;5:900+12=3333;5:900+12=3333;5:900+12=3333;5:90";
                fault(full, 60);
                fault("5:100+12=3333;5:200+12=3333;5:300+12=3333;5:40+5=3333;0:0+1=", 60);
                fault("5:100+12=3333;5:200+12=3333;5:300+12=3333;5:400+1=3333;0:0+x", 59);
                fault("5:100+2=3333;5:200+2=3333;5:300+2=3333;0:4+2=3333;0:9+5=333;", 59);
                fault("5:100+2=3333;5:200+2=3333;5:300+2=3333;0:4+2=3333;0:9+5=3333", NONE);
                fault("5:100+2=3333;5:200+2=3333;5:300+2=3333;0:4+2=333;", 48);
                fault("5:100+2=3333;5:200+2=3333;5:30+2=3333;0:4+2=3333;0:9+5=3333;", 60);
                fault("0:0+1=0001;0:0+1=0001;0:0+1=0001;0:0+1=0001;0:0+1=0001;0:0+1", 60);
                fault("0:0+1=0001;0:0+1=0001;0:0+1=0001;0:0+1=0001;0:0+1=0001;0:0:1", 58);
            });
    }

    private static void numbersInTexts() {
        says("Numbers have no zero in front, unless they are the single digit 0", () -> {
            fault("00:1+1=0001", 1);
            fault("01:1+1=0001", 1);
            fault("0:00+1=0001", 3);
            fault("0:01+1=0001", 3);
            fault("0:0900", 3);
            fault("0:1+01=0001", 4);
            fault("0:1+00", 4);
            fault("0:0+1=0001", NONE);
            fault("0:100+10=0001", NONE);
        });
        says("a digit by which a number would be greater than told is not allowed", () -> {
            fault("50:1+1=0001", 1);
            fault("11:1+1=0001", 1);
            for (int start = 0; start <= 999; start++) {
                int due = start > 900 ? 4 : NONE;
                fault("0:" + start + "+1=0001", due);
            }
            fault("0:1000+1=0001", 5);
            fault("0:9000+1=0001", 5);
            fault("0:8999+1=0001", 5);
            for (int hours = 1; hours <= 99; hours++) {
                fault("0:0+" + hours + "=0001", hours > 12 ? 5 : NONE);
            }
            fault("0:0+100=0001", 6);
            fault("0:0+120=0001", 6);
            fault("0:1:+1=0001", 3);
            fault("0:0+1:=0001", 5);
        });
        says("(A set of four digits 0 has the form.)", () -> {
            fault("0:0+1=0000", NONE);
            fault("0:0+1=0000;0:5+1=0000", NONE);
            FerryCrews x = new FerryCrews();
            type(x, "0:0+1=0000");
            due("it cannot be added", x.sailings(), BAD_VALUE);
        });
    }

    private static void history() {
        says("A history of at most 4 states is kept", () -> {
            FerryCrews x = new FerryCrews();
            for (int n = 0; n < 4; n++) {
                due("states", x.count(11), n);
                x.member(0, 10 + n);
            }
            due("4 states", x.count(11), 4);
            for (int left = 3; left >= 0; left--) {
                due("undo", x.undo(), left);
                due("members", x.count(5), left);
            }
            due("no more", x.undo(), NONE);
        });
        says("when one more is recorded, the oldest one is dropped", () -> {
            for (int acts = 5; acts <= 9; acts++) {
                FerryCrews x = new FerryCrews();
                for (int n = 0; n < acts; n++) {
                    x.member(0, 10 + n);
                    due("states", x.count(11), Math.min(n + 1, 4));
                }
                for (int left = 3; left >= 0; left--) {
                    due("undo", x.undo(), left);
                    due("members", x.count(5), acts - 4 + left);
                }
                due("the older ones were dropped", x.undo(), NONE);
                due("members", x.count(5), acts - 4);
            }
        });
        says("undo() removes and restores the latest one", () -> {
            FerryCrews x = new FerryCrews();
            x.member(0, 10);
            x.pass(3);
            x.set(4, 7);
            due("undo", x.undo(), 2);
            due("the setting", x.count(17), 48);
            due("the hour of now stays", x.count(0), 3);
            due("undo", x.undo(), 1);
            due("the hour of now", x.count(0), 0);
            due("the member stays", x.count(5), 1);
            due("undo", x.undo(), 0);
            due("the member", x.count(5), 0);
        });
        says("There is one snapshot, empty at first", () -> {
            FerryCrews x = new FerryCrews();
            due("empty", x.restore(), NONE);
            x.keep();
            x.pass(3);
            x.keep();
            x.pass(4);
            due("the later one", x.restore(), 3);
            due("and again", x.restore(), 3);
        });
    }

    private static void state() {
        says("Each call of a method that is described as an act, and returns no error and not NONE, records the state that was "
            + "before it", () -> {
                act("sailing", Sentences::harbour, x -> x.sailing(5, 900, 12, 3333), 4);
                act("sailings", Sentences::harbour, x -> x.sailings(), 2);
                act("cancel", Sentences::harbour, x -> x.cancel(3), 2);
                act("member", Sentences::harbour, x -> x.member(3, 9999), 4);
                act("certify", Sentences::harbour, x -> x.certify(0, 1, 0), 900);
                act("climb", Sentences::harbour, x -> x.climb(0, 0), 2);
                act("leave", Sentences::harbour, x -> x.leave(0, 0), 1);
                act("sick", Sentences::harbour, x -> x.sick(0, 400), 0);
                act("well", Sentences::harbour, x -> x.well(3), 6);
                act("give", Sentences::harbour, x -> x.give(2, 2, 1), 0);
                act("giveUp", Sentences::harbour, x -> x.giveUp(2, 3), 1);
                act("fill", Sentences::harbour, x -> x.fill(2), 0);
                act("pass", Sentences::harbour, x -> x.pass(200), 205);
                act("set", Sentences::harbour, x -> x.set(3, 0), 1);
                act("restore", Sentences::harbour, x -> x.restore(), 5);
            });
        says("A state is everything but the text, the history and the snapshot", () -> {
            FerryCrews x = harbour();
            String before = told(x);
            x.keep();
            x.type(';');
            x.restore();
            due("restore leaves the text", x.count(12), 24);
            due("restore leaves the history", x.count(11), 3);
            x.pass(1);
            x.keep();
            x.undo();
            due("undo leaves the text", x.count(12), 24);
            due("undo leaves the snapshot", x.restore(), 6);
            x.undo();
            x.undo();
            x.clearText();
            type(x, "4:50+4=1000;5:50+4=0200");
            same("everything else", told(x), before);
        });
    }

    private static void errors() {
        says("Errors are reported by the constants below", () -> {
            FerryCrews x = harbour();
            due("UNKNOWN", x.cancel(4), FerryCrews.UNKNOWN);
            due("BAD_VALUE", x.pass(0), FerryCrews.BAD_VALUE);
            for (int n = 0; n < 4; n++) {
                x.pass(200);
            }
            due("FULL", x.pass(200), FerryCrews.FULL);
            due("NOT_POSSIBLE", x.cancel(0), FerryCrews.NOT_POSSIBLE);
        });
        says("Where several errors can apply, the order of the @return line is the order of the checks", () -> {
            FerryCrews x = harbour();
            due("sailing: UNKNOWN, BAD_VALUE", x.sailing(6, 4, 0, 0), UNKNOWN);
            due("sailing: BAD_VALUE, NOT_POSSIBLE", x.sailing(0, 10, 4, 0), BAD_VALUE);
            due("cancel", x.cancel(-1), UNKNOWN);
            due("member: UNKNOWN, BAD_VALUE", x.member(4, -1), UNKNOWN);
            due("certify: UNKNOWN (member), BAD_VALUE", x.certify(4, 0, -1), UNKNOWN);
            due("certify: UNKNOWN (role), BAD_VALUE", x.certify(0, 4, -1), UNKNOWN);
            due("certify: BAD_VALUE, NOT_POSSIBLE", x.certify(0, 0, -1), BAD_VALUE);
            due("sick: UNKNOWN, BAD_VALUE", x.sick(4, 0), UNKNOWN);
            due("giveUp: UNKNOWN (member), NOT_POSSIBLE", x.giveUp(4, 0), UNKNOWN);
            due("sailingOf: UNKNOWN, BAD_VALUE", x.sailingOf(4, 7), UNKNOWN);
            due("crew: UNKNOWN, BAD_VALUE", x.crew(4, -1, 3), UNKNOWN);
            due("memberOf: UNKNOWN, BAD_VALUE", x.memberOf(4, 10), UNKNOWN);
            due("ladder: UNKNOWN, BAD_VALUE", x.ladder(4, -1), UNKNOWN);
            due("rest: UNKNOWN, BAD_VALUE", x.rest(4, -1, 0), UNKNOWN);
            due("leastRest: UNKNOWN, BAD_VALUE", x.leastRest(4, 3), UNKNOWN);
            due("ifSick: UNKNOWN, BAD_VALUE", x.ifSick(4, 0), UNKNOWN);
            for (int n = 4; n < 12; n++) {
                x.member(0, 5);
            }
            due("member: UNKNOWN, FULL", x.member(-1, 5), UNKNOWN);
            due("member: BAD_VALUE, FULL", x.member(0, -1), BAD_VALUE);
            due("member: FULL", x.member(0, 5), FULL);
            for (int n = 4; n < 48; n++) {
                x.sailing(5, 100 + n, 1, 1);
            }
            due("sailing: UNKNOWN, FULL", x.sailing(-1, 500, 1, 1), UNKNOWN);
            due("sailing: BAD_VALUE, FULL", x.sailing(5, 500, 1, 4), BAD_VALUE);
            due("sailing: NOT_POSSIBLE, FULL", x.sailing(5, 120, 1, 1), NOT_POSSIBLE);
            due("sailing: FULL", x.sailing(5, 500, 1, 1), FULL);
            due("sailings: FULL", x.sailings(), FULL);
            x.type('6');
            due("sailings: the fault, FULL", x.sailings(), -123);
            for (int n = 0; n < 4; n++) {
                x.pass(200);
            }
            due("pass: BAD_VALUE, FULL", x.pass(201), BAD_VALUE);
            due("pass: FULL", x.pass(200), FULL);
        });
        says("NONE is no error", () -> {
            FerryCrews x = harbour();
            due("a text without a fault", x.fault(), NONE);
            due("it can be added", x.sailings(), 2);
            due("a member that is not sick", x.memberOf(0, 4), NONE);
            due("it can be well", x.well(0), NONE);
        });
        says("it is returned only if no error applies", () -> {
            FerryCrews x = harbour();
            due("giveUp: NOT_POSSIBLE, NONE", x.giveUp(2, 0), NOT_POSSIBLE);
            due("giveUp: UNKNOWN, NONE", x.giveUp(4, 2), UNKNOWN);
            due("fill: NOT_POSSIBLE, NONE", x.fill(0), NOT_POSSIBLE);
            due("leave: UNKNOWN, NONE", x.leave(4, 0), UNKNOWN);
            due("well: UNKNOWN, NONE", x.well(4), UNKNOWN);
            due("crew: BAD_VALUE, NONE", x.crew(1, 0, 3), BAD_VALUE);
            due("crew: UNKNOWN, NONE", x.crew(4, 0, 0), UNKNOWN);
            due("ladder: BAD_VALUE, NONE", x.ladder(3, -1), BAD_VALUE);
            due("ladder: UNKNOWN, NONE", x.ladder(4, 0), UNKNOWN);
            FerryCrews y = new FerryCrews();
            due("weakest: BAD_VALUE, NONE", y.weakest(0), BAD_VALUE);
            due("weakest: NONE", y.weakest(1), NONE);
        });
    }

    private static void nothingChanges() {
        says("A call that returns an error or NONE changes nothing", () -> {
            unchanged("sailing", Sentences::harbour, x -> x.sailing(6, 900, 1, 1), UNKNOWN);
            unchanged("sailing", Sentences::harbour, x -> x.sailing(5, 901, 1, 1), BAD_VALUE);
            unchanged("sailing", Sentences::harbour, x -> x.sailing(2, 34, 1, 1), NOT_POSSIBLE);
            unchanged("sailings", TermsSentencesTest::withABadText, x -> x.sailings(), -110);
            unchanged("sailings", TermsSentencesTest::withATextThatMeetsASailing, x -> x.sailings(), NOT_POSSIBLE);
            unchanged("cancel", Sentences::harbour, x -> x.cancel(0), NOT_POSSIBLE);
            unchanged("cancel", Sentences::harbour, x -> x.cancel(4), UNKNOWN);
            unchanged("member", Sentences::harbour, x -> x.member(4, 5), UNKNOWN);
            unchanged("member", Sentences::harbour, x -> x.member(0, 10000), BAD_VALUE);
            unchanged("certify", Sentences::harbour, x -> x.certify(0, 0, 13), NOT_POSSIBLE);
            unchanged("climb", Sentences::harbour, x -> x.climb(0, 4), UNKNOWN);
            unchanged("leave", Sentences::harbour, x -> x.leave(3, 0), NONE);
            unchanged("sick", Sentences::harbour, x -> x.sick(0, 401), BAD_VALUE);
            unchanged("well", Sentences::harbour, x -> x.well(0), NONE);
            unchanged("giveUp", Sentences::harbour, x -> x.giveUp(1, 2), NONE);
            unchanged("giveUp", Sentences::harbour, x -> x.giveUp(0, 0), NOT_POSSIBLE);
            unchanged("fill", Sentences::harbour, x -> x.fill(3), NONE);
            unchanged("fill", Sentences::harbour, x -> x.fill(1), NOT_POSSIBLE);
            unchanged("pass", Sentences::harbour, x -> x.pass(201), BAD_VALUE);
            unchanged("set", Sentences::harbour, x -> x.set(1, 13), BAD_VALUE);
            unchanged("set", Sentences::harbour, x -> x.set(3, 1), NONE);
            unchanged("set", Sentences::harbour, x -> x.set(0, 20), NOT_POSSIBLE);
            unchanged("undo", FerryCrews::new, x -> x.undo(), NONE);
            unchanged("restore", FerryCrews::new, x -> x.restore(), NONE);
            unchanged("what is told", Sentences::harbour, x -> x.crew(1, 0, 0), NONE);
        });
    }

    private static FerryCrews withABadText() {
        FerryCrews x = harbour();
        x.clearText();
        type(x, "4:50+4=100;5:50+4=0200");
        return x;
    }

    private static FerryCrews withATextThatMeetsASailing() {
        FerryCrews x = harbour();
        x.clearText();
        type(x, "4:50+4=1000;0:13+4=0200");
        return x;
    }

    private static void constants() {
        says("The constants: `UNKNOWN = -1`: There is no such sailing, member, role, ferry or week", () -> {
            FerryCrews x = harbour();
            due("the constant", FerryCrews.UNKNOWN, -1);
            due("no such sailing", x.sailingOf(4, 0), -1);
            due("no such member", x.memberOf(4, 0), -1);
            due("no such role", x.ladder(4, 0), -1);
            due("no such ferry", x.sailing(6, 10, 4, 1000), -1);
            due("no such week", x.overtime(0, 6), -1);
        });
        says("`BAD_VALUE = -2`: Another argument is out of range", () -> {
            FerryCrews x = harbour();
            due("the constant", FerryCrews.BAD_VALUE, -2);
            due("a start", x.sailing(0, 901, 4, 1000), -2);
            due("hours", x.sick(0, 0), -2);
            due("what", x.count(18), -2);
            due("a rank", x.crew(0, -1, 0), -2);
            due("a setting", x.set(5, 0), -2);
        });
        says("`FULL = -3`: There is no more room", () -> {
            due("the constant", FerryCrews.FULL, -3);
            FerryCrews x = new FerryCrews();
            members(x, 12, 0);
            due("members", x.member(0, 5), -3);
            type(x, "123456789012345678901234567890123456789012345678901234567890");
            due("characters", x.type('1'), -3);
        });
        says("`NOT_POSSIBLE = -4`: This is not possible", () -> {
            due("the constant", FerryCrews.NOT_POSSIBLE, -4);
            FerryCrews x = harbour();
            due("cancel", x.cancel(1), -4);
            due("set", x.set(0, 20), -4);
        });
        says("`NONE = -5`: There is no such thing", () -> {
            due("the constant", FerryCrews.NONE, -5);
            FerryCrews x = harbour();
            due("no place", x.giveUp(3, 2), -5);
            due("no rank", x.ladder(3, 0), -5);
            due("no sailing", x.memberOf(3, 9), -5);
        });
        says("not an error", () -> {
            unchanged("an answer to a question", Sentences::harbour, x -> x.memberOf(3, 9), NONE);
            FerryCrews x = new FerryCrews();
            due("atRisk", x.atRisk(), NONE);
            due("freshest", x.freshest(), NONE);
            due("nothing is wrong with the object", x.member(0, 5), 0);
        });
    }
}
