/** Promises 1 to 4: a new object, and the sailings. */
public final class SailingsTest {
    private static final Check CHECK = new Check("SailingsTest");

    public static void main(String[] args) {
        newObject();
        constants();
        sailingNumbersAndArguments();
        sailingSets();
        sailingHoursInCommon();
        sailingFull();
        sailingIsAnAct();
        sailingsOfTheText();
        sailingsAllOrNone();
        sailingsWhenFull();
        cancel();
        CHECK.end();
    }

    private static void due(String call, long got, long want) {
        CHECK.due(call, got, want);
    }

    private static void newObject() {
        FerryCrews x = new FerryCrews();
        for (int what = 0; what <= 12; what++) {
            due("new: count(" + what + ")", x.count(what), 0);
        }
        int[] first = {10, 6, 77, 1, 48};
        for (int which = 0; which < 5; which++) {
            due("new: setting " + which, x.count(13 + which), first[which]);
        }
        due("new: sailingOf", x.sailingOf(0, 0), -1);
        due("new: memberOf", x.memberOf(0, 0), -1);
        for (int role = 0; role < 4; role++) {
            due("new: ladder " + role, x.ladder(role, 0), -5);
        }
        due("new: fault", x.fault(), 0);
        due("new: undo", x.undo(), -5);
        due("new: restore", x.restore(), -5);
        due("new: atRisk", x.atRisk(), -5);
        due("new: freshest", x.freshest(), -5);
        due("new: weakest", x.weakest(1), -5);
        due("new: cancelledIn", x.cancelledIn(1000), 0);
    }

    private static void constants() {
        due("UNKNOWN", FerryCrews.UNKNOWN, -1);
        due("BAD_VALUE", FerryCrews.BAD_VALUE, -2);
        due("FULL", FerryCrews.FULL, -3);
        due("NOT_POSSIBLE", FerryCrews.NOT_POSSIBLE, -4);
        due("NONE", FerryCrews.NONE, -5);
    }

    private static void sailingNumbersAndArguments() {
        FerryCrews x = new FerryCrews();
        due("ferry -1", x.sailing(-1, 5, 2, 1000), -1);
        due("ferry 6, all else wrong too", x.sailing(6, -1, 0, 0), -1);
        due("ferry of the least number", x.sailing(Integer.MIN_VALUE, 5, 2, 1000), -1);
        due("start -1", x.sailing(0, -1, 2, 1000), -2);
        due("start 901", x.sailing(0, 901, 2, 1000), -2);
        due("start of the greatest number", x.sailing(0, Integer.MAX_VALUE, 2, 1000), -2);
        due("hours 0", x.sailing(0, 5, 0, 1000), -2);
        due("hours 13", x.sailing(0, 5, 13, 1000), -2);
        due("hours of the greatest number", x.sailing(0, 5, Integer.MAX_VALUE, 1000), -2);
        due("start 0, 1 hour, ferry 0", x.sailing(0, 0, 1, 1000), 0);
        due("start 900, 12 hours, ferry 5", x.sailing(5, 900, 12, 1000), 1);
        due("its end", x.sailingOf(1, 3), 912);
        x.pass(10);
        due("a start ahead of now", x.sailing(2, 9, 2, 1000), -2);
        due("a start now", x.sailing(2, 10, 2, 1000), 2);
        for (int turn = 0; turn < 5; turn++) {
            x.pass(198);
        }
        due("now", x.count(0), 1000);
        due("no start is left", x.sailing(3, 900, 2, 1000), -2);
    }

    private static void sailingSets() {
        FerryCrews x = new FerryCrews();
        int[] wrong = {0, -1, -1000, 4, 40, 400, 4000, 3334, 3343, 3433, 10000, 11000, 1009, 1900,
            Integer.MIN_VALUE, Integer.MAX_VALUE};
        for (int set : wrong) {
            due("set " + set, x.sailing(0, 5, 2, set), -2);
        }
        int[] right = {1, 10, 100, 1000, 3333, 3, 1012, 300};
        int[] places = {1, 1, 1, 1, 12, 3, 4, 3};
        for (int n = 0; n < right.length; n++) {
            due("set " + right[n], x.sailing(0, 5 + n, 1, right[n]), n);
            due("its set", x.sailingOf(n, 4), right[n]);
            due("its places", x.sailingOf(n, 5), places[n]);
        }
    }

    private static void sailingHoursInCommon() {
        FerryCrews x = new FerryCrews();
        x.sailing(0, 10, 4, 1000);
        due("the same hours", x.sailing(0, 10, 4, 1000), -4);
        due("the last hour", x.sailing(0, 13, 1, 1000), -4);
        due("the first hour", x.sailing(0, 8, 3, 1000), -4);
        due("all around", x.sailing(0, 8, 12, 1000), -4);
        due("BAD_VALUE comes first", x.sailing(0, 10, 4, 0), -2);
        due("right before", x.sailing(0, 8, 2, 1000), 1);
        due("right behind", x.sailing(0, 14, 1, 1000), 2);
        due("another ferry", x.sailing(1, 10, 4, 1000), 3);
        x.cancel(0);
        due("where a cancelled one was", x.sailing(0, 10, 4, 1000), 4);
        due("where it is again", x.sailing(0, 10, 4, 1000), -4);

        FerryCrews y = new FerryCrews();
        y.member(0, 900);
        y.sailing(0, 0, 12, 1000);
        y.sailing(1, 0, 12, 1000);
        y.give(0, 0, 0);
        y.pass(1);
        due("it sailed", y.sailingOf(0, 0), 1);
        due("it was cancelled", y.sailingOf(1, 0), 2);
        due("in hours of one that sailed", y.sailing(0, 11, 1, 1000), -4);
        due("behind one that sailed", y.sailing(0, 12, 1, 1000), 2);
        due("in hours of one that did not sail", y.sailing(1, 11, 1, 1000), 3);
    }

    private static void sailingFull() {
        FerryCrews x = new FerryCrews();
        for (int n = 0; n < 48; n++) {
            due("sailing " + n, x.sailing(n % 6, n / 6 * 2, 1, 1000), n);
        }
        due("the 49th", x.sailing(0, 500, 1, 1000), -3);
        due("NOT_POSSIBLE comes first", x.sailing(0, 0, 1, 1000), -4);
        due("BAD_VALUE comes first", x.sailing(0, 500, 0, 1000), -2);
        due("UNKNOWN comes first", x.sailing(6, 500, 1, 1000), -1);
        x.cancel(7);
        due("cancelled ones came too", x.sailing(0, 500, 1, 1000), -3);
        x.undo();
        x.undo();
        due("one was undone", x.sailing(5, 14, 1, 1000), 47);
    }

    private static void sailingIsAnAct() {
        FerryCrews x = new FerryCrews();
        x.sailing(0, 10, 4, 1000);
        due("one state", x.count(11), 1);
        x.sailing(0, 10, 4, 1000);
        x.sailing(0, 10, 4, 0);
        x.sailing(9, 10, 4, 1000);
        due("errors are not recorded", x.count(11), 1);
        due("errors add none", x.count(1), 1);
        due("undo", x.undo(), 0);
        due("no sailing is left", x.count(1), 0);
        due("nor told", x.sailingOf(0, 0), -1);
    }

    private static void sailingsOfTheText() {
        FerryCrews x = new FerryCrews();
        due("the empty text", x.sailings(), -100);
        Check.type(x, "5:900+12=3333;0:0+1=0001;0:1+10=1000");
        due("three sailings", x.sailings(), 3);
        due("one act", x.count(11), 1);
        due("the text stays", x.count(12), 36);
        int[][] told = {{0, 5, 900, 912, 3333, 12, 12}, {0, 0, 0, 1, 1, 1, 1}, {0, 0, 1, 11, 1000, 1, 1}};
        for (int n = 0; n < told.length; n++) {
            for (int what = 0; what <= 6; what++) {
                due("sailingOf(" + n + ", " + what + ")", x.sailingOf(n, what), told[n][what]);
            }
        }
        due("once more", x.sailings(), -4);
        due("one undo takes all back", x.undo(), 0);
        due("none is left", x.count(1), 0);
        due("the text is no part of a state", x.count(12), 36);
        x.type(';');
        due("a text that ends too early", x.sailings(), -137);
        x.clearText();
        Check.type(x, "6");
        due("the first character", x.sailings(), -100);
        x.clearText();
        Check.type(x, "0:1+2=1000 ");
        due("a character too much", x.sailings(), -110);
        x.clearText();
        Check.type(x, "0:0+1=1000;0:1+1=1000;0:2+1=1000;0:3+1=1000;0:4+1=1000");
        due("as many as a text can have", x.sailings(), 5);
        due("the last of them", x.sailingOf(4, 2), 4);
        Check.type(x, ";0:5+1");
        due("a full text that ends too early", x.sailings(), -160);
    }

    private static void sailingsAllOrNone() {
        FerryCrews x = new FerryCrews();
        Check.type(x, "0:5+4=1000;1:5+4=1000;0:8+4=1000");
        due("two of them have an hour in common", x.sailings(), -4);
        due("none is added", x.count(1), 0);
        due("none is recorded", x.count(11), 0);
        x.clearText();
        Check.type(x, "0:5+4=1000;0:5+4=0000;9");
        due("the fault comes first", x.sailings(), -122);
        x.clearText();
        Check.type(x, "0:5+4=1000;0:6+4=1000;1:1+1=0000");
        due("the error of the first that has one", x.sailings(), -4);
        x.clearText();
        Check.type(x, "0:5+4=1000;1:1+1=0000;0:6+4=1000");
        due("a set of four digits 0", x.sailings(), -2);
        x.clearText();
        Check.type(x, "0:9+4=1000;0:5+4=1000");
        x.pass(6);
        due("a start ahead of now", x.sailings(), -2);
        due("none is added then either", x.count(1), 0);
    }

    private static void sailingsWhenFull() {
        FerryCrews x = new FerryCrews();
        for (int n = 0; n < 47; n++) {
            x.sailing(n % 6, n / 6 * 2, 1, 1000);
        }
        Check.type(x, "0:50+4=1000;1:50+4=1000");
        due("the second is one too many", x.sailings(), -3);
        due("the first was not added", x.count(1), 47);
        x.clearText();
        Check.type(x, "0:50+4=1000;0:50+4=1000");
        due("NOT_POSSIBLE comes ahead of FULL", x.sailings(), -4);
        x.clearText();
        Check.type(x, "0:50+4=1000");
        due("the last that there is room for", x.sailings(), 1);
        due("48", x.count(1), 48);
    }

    private static void cancel() {
        FerryCrews x = Check.withoutRests();
        due("no such sailing", x.cancel(0), -1);
        x.sailing(0, 10, 4, 1110);
        x.sailing(0, 14, 4, 1000);
        x.member(0, 900);
        x.member(1, 900);
        x.give(0, 0, 0);
        x.give(1, 0, 1);
        x.give(0, 1, 0);
        due("sailing -1", x.cancel(-1), -1);
        due("sailing 2", x.cancel(2), -1);
        due("the duty ahead", x.crew(1, 0, 2), 14);
        due("two had a place", x.cancel(0), 2);
        due("it is cancelled", x.sailingOf(0, 0), 2);
        due("all is free", x.sailingOf(0, 6), 3);
        due("nobody has a place", x.crew(0, 0, 0), -5);
        due("the other one's handover", x.crew(1, 0, 2), 13);
        due("again", x.cancel(0), -4);
        due("only the act is undone", x.undo(), 3);
        due("it is open", x.sailingOf(0, 0), 0);
        due("its places are back", x.sailingOf(0, 6), 1);
        x.giveUp(0, 1);
        x.give(0, 1, 0);
        due("none had a place", x.cancel(1), 1);
        x.sailing(2, 20, 4, 1000);
        due("nobody had one", x.cancel(2), 0);
        x.sailing(2, 20, 4, 1000);
        x.give(0, 3, 0);
        x.pass(21);
        due("it sailed", x.sailingOf(3, 0), 1);
        due("one that sailed", x.cancel(3), -4);
        due("one that did not sail", x.cancel(0), -4);
    }
}
