/** Promises 1 to 4, sentence by sentence. */
public final class SailingsSentencesTest extends Sentences {

    public static void main(String[] args) {
        begin("SailingsSentencesTest", 1, 4);
        newObject();
        sailing();
        sailingErrors();
        sailings();
        sailingsErrors();
        cancel();
        end();
    }

    private static void newObject() {
        promise(1);
        says("Creates ferries without sailings and members", () -> {
            FerryCrews x = new FerryCrews();
            due("no sailings", x.count(1), 0);
            due("no members", x.count(5), 0);
            due("no sailing 0", x.sailingOf(0, 0), UNKNOWN);
            due("no member 0", x.memberOf(0, 0), UNKNOWN);
            due("nobody sick", x.count(6), 0);
            due("nothing in the history", x.count(11), 0);
            due("no text", x.count(12), 0);
            FerryCrews y = new FerryCrews();
            x.member(0, 5);
            x.sailing(0, 1, 2, 1000);
            x.set(4, 9);
            x.type('1');
            x.keep();
            x.pass(7);
            same("another object", told(y), told(new FerryCrews()));
            due("its snapshot", y.restore(), NONE);
        });
    }

    private static void sailing() {
        promise(2);
        says("Adds a sailing", () -> {
            FerryCrews x = harbour();
            x.sailing(4, 33, 7, 1203);
            int[] told = {0, 4, 33, 40, 1203, 6, 6};
            for (int what = 0; what < told.length; what++) {
                due("sailingOf(4, " + what + ")", x.sailingOf(4, what), told[what]);
            }
            due("sailings", x.count(1), 5);
            due("open ones", x.count(2), 3);
            due("nobody has a place", x.crew(4, 0, 0), NONE);
        });
        says("This is an act", () -> act("sailing", Sentences::harbour, x -> x.sailing(4, 33, 7, 1203), 4));
        says("`ferry`: 0 to 5", () -> {
            FerryCrews x = new FerryCrews();
            for (int ferry = 0; ferry <= 5; ferry++) {
                due("ferry " + ferry, x.sailing(ferry, 10, 4, 1000), ferry);
            }
        });
        says("`start`: the hour of now to 900", () -> {
            FerryCrews x = new FerryCrews();
            due("0", x.sailing(0, 0, 1, 1000), 0);
            due("900", x.sailing(0, 900, 1, 1000), 1);
            x.pass(5);
            due("now", x.sailing(0, 5, 1, 1000), 2);
            for (int n = 0; n < 4; n++) {
                x.pass(200);
            }
            x.pass(95);
            due("now is 900", x.sailing(1, 900, 1, 1000), 3);
            x.pass(1);
            due("now is 901", x.sailing(1, 901, 1, 1000), BAD_VALUE);
        });
        says("`hours`: 1 to 12", () -> {
            FerryCrews x = new FerryCrews();
            for (int hours = 1; hours <= 12; hours++) {
                due(hours + " hours", x.sailing(0, 20 * hours, hours, 1000), hours - 1);
                due("its end", x.sailingOf(hours - 1, 3), 21 * hours);
            }
        });
        says("`set`: four decimal digits 0 to 3, at least one above 0", () -> {
            FerryCrews x = new FerryCrews();
            int[] sets = {1, 10, 100, 1000, 3, 30, 300, 3000, 3333, 2103};
            int[] places = {1, 1, 1, 1, 3, 3, 3, 3, 12, 6};
            for (int n = 0; n < sets.length; n++) {
                due("set " + sets[n], x.sailing(0, 20 * n, 1, sets[n]), n);
                due("its places", x.sailingOf(n, 5), places[n]);
            }
        });
        says("Returns its number", () -> {
            FerryCrews x = new FerryCrews();
            due("the first", x.sailing(3, 50, 4, 1000), 0);
            due("the second", x.sailing(3, 40, 4, 1000), 1);
            x.cancel(1);
            due("the third, behind a cancelled one", x.sailing(3, 40, 4, 1000), 2);
            x.undo();
            due("the third again, as it was undone", x.sailing(2, 30, 4, 1000), 2);
            due("it is that one", x.sailingOf(2, 1), 2);
        });
    }

    private static void sailingErrors() {
        says("UNKNOWN (ferry)", () -> {
            for (int ferry : new int[] {-1, 6, LEAST, GREATEST}) {
                unchanged("ferry " + ferry, Sentences::harbour, x -> x.sailing(ferry, 50, 4, 1000), UNKNOWN);
                due("ahead of the rest", harbour().sailing(ferry, -1, 0, 0), UNKNOWN);
            }
        });
        says("BAD_VALUE", () -> {
            for (int start : new int[] {4, 0, -1, 901, LEAST, GREATEST, GREATEST - 3}) {
                unchanged("start " + start, Sentences::harbour, x -> x.sailing(5, start, 4, 1000), BAD_VALUE);
            }
            for (int hours : new int[] {0, 13, -1, LEAST, GREATEST}) {
                unchanged("hours " + hours, Sentences::harbour, x -> x.sailing(5, 50, hours, 1000), BAD_VALUE);
            }
            int[] sets = {0, -1, -1000, 4, 9, 40, 400, 4000, 3334, 3343, 3433, 10000, 11111, 10001, LEAST, GREATEST};
            for (int set : sets) {
                unchanged("set " + set, Sentences::harbour, x -> x.sailing(5, 50, 4, set), BAD_VALUE);
            }
            due("ahead of NOT_POSSIBLE", harbour().sailing(2, 30, 13, 1000), BAD_VALUE);
            due("ahead of FULL", full().sailing(5, 901, 4, 1000), BAD_VALUE);
        });
        says("NOT_POSSIBLE if it has an hour in common with another sailing of the ferry that is not cancelled", () -> {
            unchanged("its last hour", Sentences::harbour, x -> x.sailing(2, 34, 4, 1000), NOT_POSSIBLE);
            unchanged("its first hour", Sentences::harbour, x -> x.sailing(2, 20, 11, 1000), NOT_POSSIBLE);
            unchanged("in it", Sentences::harbour, x -> x.sailing(2, 32, 1, 1000), NOT_POSSIBLE);
            unchanged("around it", Sentences::harbour, x -> x.sailing(2, 29, 7, 1000), NOT_POSSIBLE);
            unchanged("the same", Sentences::harbour, x -> x.sailing(2, 30, 5, 1100), NOT_POSSIBLE);
            FerryCrews x = harbour();
            due("right behind", x.sailing(2, 35, 4, 1000), 4);
            due("right before", x.sailing(2, 20, 10, 1000), 5);
            due("with one that came right now", x.sailing(2, 29, 1, 1000), NOT_POSSIBLE);
            due("of another ferry", x.sailing(3, 30, 5, 1000), 6);
            due("with a cancelled one", x.sailing(1, 5, 4, 1000), 7);
            FerryCrews y = plain();
            members(y, 1, 0);
            duty(y, 0, 0, 3, 4);
            y.pass(4);
            due("with one that sailed", y.sailing(0, 6, 4, 1000), NOT_POSSIBLE);
            due("ahead of FULL", full().sailing(5, 10, 4, 1000), NOT_POSSIBLE);
        });
        says("FULL if 48 came", () -> {
            FerryCrews x = full();
            due("48 came", x.count(1), 48);
            due("the last", x.sailingOf(47, 2), 104);
            unchanged("the 49th", SailingsSentencesTest::full, y -> y.sailing(5, 500, 4, 1000), FULL);
            x.cancel(0);
            due("cancelled ones came too", x.sailing(5, 500, 4, 1000), FULL);
            x.undo();
            x.undo();
            due("the last was undone", x.sailing(5, 500, 4, 1000), 47);
        });
    }

    /** 48 sailings of the ferry 5, of two hours each, the first at 10. */
    private static FerryCrews full() {
        FerryCrews x = new FerryCrews();
        for (int n = 0; n < 48; n++) {
            x.sailing(5, 10 + 2 * n, 2, 1000);
        }
        type(x, "4:50+4=1000");
        return x;
    }

    private static FerryCrews withText(String text) {
        FerryCrews x = harbour();
        x.clearText();
        type(x, text);
        return x;
    }

    private static void sailings() {
        promise(3);
        says("Adds all sailings of the text, which stays, one after the other", () -> {
            FerryCrews x = withText("5:900+12=3333;0:14+1=0001;4:9+10=1023");
            x.sailings();
            int[][] told = {{0, 5, 900, 912, 3333, 12, 12}, {0, 0, 14, 15, 1, 1, 1}, {0, 4, 9, 19, 1023, 6, 6}};
            for (int n = 0; n < told.length; n++) {
                for (int what = 0; what < 7; what++) {
                    due("sailingOf(" + (4 + n) + ", " + what + ")", x.sailingOf(4 + n, what), told[n][what]);
                }
            }
            due("sailings", x.count(1), 7);
            due("the text stays", x.count(12), 37);
            due("without a fault", x.fault(), NONE);
            x.undo();
            due("added again", x.sailings(), 3);
            FerryCrews y = new FerryCrews();
            type(y, "0:5+1=1000");
            y.sailings();
            y.clearText();
            type(y, "1:6+2=0100");
            due("another text", y.sailings(), 1);
            due("its ferry", y.sailingOf(1, 1), 1);
            due("its set", y.sailingOf(1, 4), 100);
        });
        says("all of them or none", () -> {
            String[] texts = {"4:50+4=1000;4:53+4=1000", "4:50+4=1000;3:50+4=1000;0:10+4=1000", "4:50+4=1000;4:4+1=1000",
                "4:50+4=1000;4:60+4=1000;4:70+4=0000"};
            int[] answers = {NOT_POSSIBLE, NOT_POSSIBLE, BAD_VALUE, BAD_VALUE};
            for (int n = 0; n < texts.length; n++) {
                String text = texts[n];
                unchanged(text, () -> withText(text), x -> x.sailings(), answers[n]);
            }
        });
        says("This is one act", () -> {
            act("two sailings", Sentences::harbour, x -> x.sailings(), 2);
            act("one sailing", () -> withText("4:50+4=1000"), x -> x.sailings(), 1);
        });
        says("Returns how many the text has", () -> {
            String text = "";
            for (int many = 1; many <= 5; many++) {
                text += (many == 1 ? "" : ";") + "0:" + many + "+1=1000";
                FerryCrews x = new FerryCrews();
                type(x, text);
                due(text, x.sailings(), many);
                due("sailings", x.count(1), many);
            }
        });
    }

    private static void sailingsErrors() {
        says("-100 minus the fault of the text if it has one (which is an error)", () -> {
            unchanged("the empty text", () -> withText(""), x -> x.sailings(), -100);
            unchanged("the first character", () -> withText("x:50+4=1000"), x -> x.sailings(), -100);
            unchanged("a character", () -> withText("4:901+4=1000"), x -> x.sailings(), -104);
            unchanged("a text that ends too early", () -> withText("4:50+4=1000;"), x -> x.sailings(), -112);
            String full = "5:900+12=3333;5:800+12=3333;5:700+12=3333;5:600+12=3333;5:50";
            unchanged("a full text that ends too early", () -> withText(full), x -> x.sailings(), -160);
            unchanged("ahead of NOT_POSSIBLE", () -> withText("0:10+4=1000;9"), x -> x.sailings(), -112);
            FerryCrews x = full();
            x.type('0');
            due("ahead of FULL", x.sailings(), -111);
        });
        says("otherwise the error that sailing() returns for the first one that has one when its turn comes", () -> {
            due("a start that is over", withText("4:4+4=1000").sailings(), BAD_VALUE);
            due("a start now", withText("4:5+4=1000").sailings(), 1);
            due("a set of four digits 0", withText("4:50+4=0000").sailings(), BAD_VALUE);
            due("an hour in common with another", withText("2:34+4=1000").sailings(), NOT_POSSIBLE);
            due("an hour in common with one of the text", withText("4:50+4=1000;4:53+1=1000").sailings(), NOT_POSSIBLE);
            due("right behind one of the text", withText("4:50+4=1000;4:54+1=1000").sailings(), 2);
            due("the first error", withText("2:34+4=1000;4:4+4=1000").sailings(), NOT_POSSIBLE);
            due("the first error, the other way", withText("4:4+4=1000;2:34+4=1000").sailings(), BAD_VALUE);
            unchanged("48 came", SailingsSentencesTest::full, x -> x.sailings(), FULL);
            FerryCrews x = full();
            x.undo();
            due("room for one", x.sailings(), 1);
            due("the last", x.sailingOf(47, 2), 50);
            FerryCrews y = full();
            y.undo();
            type(y, ";4:60+4=1000");
            due("room for the first alone", y.sailings(), FULL);
            due("it is not added", y.count(1), 47);
            FerryCrews z = full();
            type(z, ";4:50+4=0000");
            due("FULL when its turn comes, ahead of BAD_VALUE of the next", z.sailings(), FULL);
            FerryCrews w = full();
            w.undo();
            type(w, ";4:50+4=1000");
            due("NOT_POSSIBLE ahead of FULL", w.sailings(), NOT_POSSIBLE);
        });
    }

    /** A sailing of twelve places, all of them taken; it has the number 0. */
    static FerryCrews wholeCrew() {
        FerryCrews x = plain();
        x.sailing(0, 10, 4, 3333);
        for (int n = 0; n < 12; n++) {
            x.member(n / 3, 900);
            x.give(n, 0, n / 3);
        }
        clearHistory(x);
        return x;
    }

    private static void cancel() {
        promise(4);
        says("Cancels an open sailing", () -> {
            FerryCrews x = harbour();
            x.cancel(3);
            due("how it is", x.sailingOf(3, 0), 2);
            due("cancelled ones", x.count(4), 2);
            due("open ones", x.count(2), 1);
            due("its hours are free", x.sailing(2, 30, 5, 1000), 4);
            x.pass(30);
            due("it stays cancelled", x.sailingOf(3, 0), 2);
        });
        says("its places are given up", () -> {
            FerryCrews x = harbour();
            x.cancel(3);
            due("free ones", x.sailingOf(3, 6), 2);
            due("nobody has a place", x.crew(3, 0, 0), NONE);
            due("places of 1", x.memberOf(1, 5), 0);
            due("hours of 1", x.memberOf(1, 7), 0);
            due("the next sailing of 2", x.memberOf(2, 9), NONE);
            due("another sailing in its hours", duty(x, 1, 3, 31, 2), 0);
        });
        says("This is an act", () -> {
            act("cancel", Sentences::harbour, x -> x.cancel(3), 2);
            act("a whole crew", SailingsSentencesTest::wholeCrew, x -> x.cancel(0), 12);
        });
        says("`sailing`: a sailing", () -> {
            FerryCrews x = full();
            due("the first", x.cancel(0), 0);
            due("the last", x.cancel(47), 0);
            due("the first is cancelled", x.sailingOf(0, 0), 2);
            due("the last is cancelled", x.sailingOf(47, 0), 2);
            due("no other is", x.count(4), 2);
        });
        says("Returns how many members had a place", () -> {
            due("one", harbour().cancel(2), 1);
            due("two", harbour().cancel(3), 2);
            due("none", full().cancel(5), 0);
            due("twelve", wholeCrew().cancel(0), 12);
        });
        says("UNKNOWN", () -> {
            for (int sailing : new int[] {-1, 4, 48, LEAST, GREATEST}) {
                unchanged("sailing " + sailing, Sentences::harbour, x -> x.cancel(sailing), UNKNOWN);
            }
            due("without sailings", new FerryCrews().cancel(0), UNKNOWN);
            due("behind the last", full().cancel(48), UNKNOWN);
        });
        says("NOT_POSSIBLE if it is not open", () -> {
            unchanged("sailed", Sentences::harbour, x -> x.cancel(0), NOT_POSSIBLE);
            unchanged("cancelled below its set", Sentences::harbour, x -> x.cancel(1), NOT_POSSIBLE);
            FerryCrews x = harbour();
            x.cancel(2);
            due("cancelled by a call", x.cancel(2), NOT_POSSIBLE);
        });
    }
}
