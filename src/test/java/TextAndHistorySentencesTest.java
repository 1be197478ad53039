/** Promises 16 to 21, sentence by sentence. */
public final class TextAndHistorySentencesTest extends Sentences {
    private static final String FULL_TEXT = "5:100+2=3333;5:200+2=3333;5:300+2=3333;0:4+2=3333;0:9+5=3333";

    public static void main(String[] args) {
        begin("TextAndHistorySentencesTest", 16, 21);
        type();
        clearText();
        fault();
        undo();
        keep();
        restore();
        end();
    }

    private static FerryCrews withText(String text) {
        FerryCrews x = new FerryCrews();
        type(x, text);
        return x;
    }

    private static void type() {
        promise(16);
        says("Appends a character to the text", () -> {
            FerryCrews x = new FerryCrews();
            String text = "0:7+1=1000";
            for (int at = 0; at < text.length(); at++) {
                x.type(text.charAt(at));
                due("fault behind " + text.charAt(at), x.fault(), at == 9 ? NONE : at + 1);
            }
            due("the sailing of the text", x.sailings(), 1);
            due("its start", x.sailingOf(0, 2), 7);
            FerryCrews y = harbour();
            y.type('x');
            due("no act", y.count(11), 2);
            due("its fault", y.fault(), 23);
        });
        says("`character`: any character", () -> {
            for (int c = 0; c < 0x10000; c += c < 300 ? 1 : 37) {
                FerryCrews x = withText("0:");
                due("character " + c, x.type((char) c), 3);
                boolean isDigit = c >= '0' && c <= '9';
                due("fault behind character " + c, x.fault(), isDigit ? 3 : 2);
            }
            for (char c : new char[] {0, 9, 127, 128, 255, 256, 0x3b1, 0x663, 0xff10, 0xfffe, 0xffff}) {
                due("fault of character " + (int) c, withText("" + c).fault(), 0);
                due("behind a sailing", withText("0:0+1=1000" + c).fault(), 10);
            }
        });
        says("Returns the length then", () -> {
            FerryCrews x = new FerryCrews();
            for (int length = 1; length <= 60; length++) {
                due("length", x.type(';'), length);
            }
            x.clearText();
            due("from 1 on again", x.type(';'), 1);
        });
        says("FULL if it has 60 characters", () -> {
            unchanged("the 61st", () -> withText(FULL_TEXT), x -> x.type('5'), FULL);
            unchanged("any", () -> withText(FULL_TEXT), x -> x.type((char) 0), FULL);
            due("the 60th", withText(FULL_TEXT.substring(1)).type('5'), 60);
            due("five sailings", withText(FULL_TEXT).sailings(), 5);
        });
    }

    private static void clearText() {
        promise(17);
        says("Empties the text", () -> {
            FerryCrews x = harbour();
            String before = told(x);
            x.clearText();
            due("its length", x.count(12), 0);
            due("its fault", x.fault(), 0);
            due("no act", x.count(11), 2);
            type(x, "4:50+4=1000;5:50+4=0200");
            same("everything else", told(x), before);
            x.clearText();
            type(x, "5:4+1=10");
            due("nothing is left of it", x.fault(), 8);
            String text = "0:0+1=1000;5:900+12=3333";
            for (int length = 0; length < text.length(); length++) {
                FerryCrews y = withText(text);
                y.clearText();
                type(y, text.substring(0, length));
                due("fault of " + text.substring(0, length), y.fault(), length == 10 ? NONE : length);
            }
        });
        says("Returns the length that it had", () -> {
            due("0", new FerryCrews().clearText(), 0);
            due("1", withText("x").clearText(), 1);
            due("60", withText(FULL_TEXT).clearText(), 60);
            FerryCrews x = withText("xyz");
            due("3", x.clearText(), 3);
            due("0 then", x.clearText(), 0);
        });
    }

    private static void fault() {
        promise(18);
        says("Tells the fault of the text", () -> {
            unchanged("of a text with one", () -> withText("0:0+1=1000;6"), x -> x.fault(), 11);
            FerryCrews x = withText("0:0+1=1000;");
            due("fault", x.fault(), 11);
            due("and again", x.fault(), 11);
            x.sailings();
            due("behind sailings()", x.fault(), 11);
            x.type('5');
            due("of one more character", x.fault(), 12);
        });
        says("Returns the index", () -> {
            String[] texts = {"", "6", "0", "0:", "0:+", "0:0", "0:901", "0:900+", "0:900+13", "0:900+0", "0:900+12",
                "0:900+12=", "0:900+12=4", "0:900+12=333", "0:900+12=33333", "0:900+12=3333;", "0:900+12=3333;6"};
            int[] faults = {0, 0, 1, 2, 2, 3, 4, 6, 7, 6, 8, 9, 9, 12, 13, 14, 14};
            for (int n = 0; n < texts.length; n++) {
                due("fault of " + texts[n], withText(texts[n]).fault(), faults[n]);
            }
            due("of a full text", withText(FULL_TEXT.substring(1) + ";").fault(), 0);
        });
        says("NONE if it has none", () -> {
            unchanged("none", () -> withText("0:900+12=3333"), x -> x.fault(), NONE);
            unchanged("none of a full text", () -> withText(FULL_TEXT), x -> x.fault(), NONE);
            due("a sailing that cannot be added", withText("0:0+1=0000").fault(), NONE);
            due("two that have an hour in common", withText("0:0+1=1000;0:0+1=1000").fault(), NONE);
        });
    }

    private static void undo() {
        promise(19);
        says("Removes and restores the latest state of the history", () -> {
            FerryCrews x = harbour();
            String before = told(x);
            x.pass(30);
            x.sick(1, 50);
            x.undo();
            due("it was not sick", x.memberOf(1, 4), NONE);
            due("the hour of now", x.count(0), 35);
            x.undo();
            same("what is told", told(x), before);
            x.pass(1);
            x.undo();
            same("what is told behind another act", told(x), before);
        });
        says("Returns the number of states that are left", () -> {
            for (int acts = 1; acts <= 6; acts++) {
                FerryCrews x = new FerryCrews();
                for (int n = 0; n < acts; n++) {
                    x.pass(1);
                }
                for (int left = Math.min(acts, 4) - 1; left >= 0; left--) {
                    due("left", x.undo(), left);
                    due("told", x.count(11), left);
                }
                due("the hour of now", x.count(0), Math.max(0, acts - 4));
            }
        });
        says("NONE if the history is empty", () -> {
            unchanged("of a new object", FerryCrews::new, x -> x.undo(), NONE);
            FerryCrews x = new FerryCrews();
            x.pass(1);
            x.undo();
            due("all are undone", x.undo(), NONE);
            due("undo is no act", x.undo(), NONE);
            due("the next act", x.pass(1), 1);
            due("can be undone", x.undo(), 0);
        });
    }

    private static void keep() {
        promise(20);
        says("Takes a snapshot of the state, in place of the one that was", () -> {
            FerryCrews x = harbour();
            x.keep();
            String kept = state(x);
            due("no act", x.count(11), 2);
            x.pass(40);
            x.member(0, 5);
            x.restore();
            same("the state is as it was", state(x), kept);
            FerryCrews y = new FerryCrews();
            y.pass(3);
            y.keep();
            y.pass(4);
            y.keep();
            due("the one that was is gone", y.restore(), 7);
        });
        says("Returns the hour of now", () -> {
            FerryCrews x = new FerryCrews();
            due("0", x.keep(), 0);
            x.pass(200);
            due("200", x.keep(), 200);
            for (int n = 0; n < 4; n++) {
                x.pass(200);
            }
            due("1000", x.keep(), 1000);
        });
    }

    /** Everything that can differ does, from what the snapshot has. */
    private static FerryCrews changed() {
        FerryCrews x = harbour();
        x.keep();
        x.set(3, 0);
        x.cancel(2);
        x.sailing(5, 60, 4, 1000);
        x.member(3, 8);
        x.certify(1, 3, 7);
        x.leave(0, 0);
        x.sick(1, 90);
        x.pass(40);
        return x;
    }

    private static void restore() {
        promise(21);
        says("Restores the state of the snapshot, which stays", () -> {
            String kept = state(harbour());
            FerryCrews x = changed();
            x.restore();
            same("restored", state(x), kept);
            x.pass(9);
            x.fill(2);
            x.restore();
            same("restored again", state(x), kept);
            FerryCrews y = changed();
            y.restore();
            due("how a sailing is", y.sailingOf(2, 0), 0);
            due("its crew", y.crew(2, 0, 0), 0);
            due("the handover", y.count(16), 1);
            due("members", y.count(5), 4);
            due("sailings", y.count(1), 4);
            due("certificates", y.memberOf(1, 3), 0);
            due("the ladder", y.ladder(0, 0), 0);
            due("who is sick", y.memberOf(1, 4), NONE);
            due("the hour of now", y.count(0), 5);
            FerryCrews w = SailingsSentencesTest.wholeCrew();
            w.keep();
            w.cancel(0);
            w.restore();
            due("the last of a whole crew", w.crew(0, 11, 0), 11);
        });
        says("This is an act", () -> {
            act("restore", TextAndHistorySentencesTest::kept, x -> x.restore(), 5);
            act("what is so already", TextAndHistorySentencesTest::keptNow, x -> x.restore(), 6);
        });
        says("Returns the hour of now then", () -> {
            due("of the snapshot", changed().restore(), 5);
            FerryCrews x = new FerryCrews();
            x.pass(200);
            x.keep();
            x.undo();
            due("later than now", x.restore(), 200);
            due("told", x.count(0), 200);
        });
        says("NONE if there is no snapshot", () -> {
            unchanged("of a new object", FerryCrews::new, x -> x.restore(), NONE);
            FerryCrews x = new FerryCrews();
            x.pass(3);
            due("none was taken", x.restore(), NONE);
            x.keep();
            x.undo();
            due("it is not undone", x.restore(), 3);
        });
    }

    private static FerryCrews kept() {
        FerryCrews x = harbour();
        x.keep();
        x.pass(40);
        return x;
    }

    private static FerryCrews keptNow() {
        FerryCrews x = harbour();
        x.pass(1);
        x.keep();
        return x;
    }
}
