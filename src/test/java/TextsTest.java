/** Promises 16 to 18: the text and its fault. */
public final class TextsTest {
    private static final Check CHECK = new Check("TextsTest");

    public static void main(String[] args) {
        type();
        clearText();
        textIsNoPartOfAState();
        faultsOfTheFerry();
        faultsOfTheStart();
        faultsOfTheHours();
        faultsOfTheSet();
        faultsOfSeveral();
        strangeCharacters();
        CHECK.end();
    }

    private static void due(String call, long got, long want) {
        CHECK.due(call, got, want);
    }

    private static void fault(String text, int want) {
        FerryCrews x = new FerryCrews();
        Check.type(x, text);
        due("fault of " + text, x.fault(), want);
        due("sailings of " + text, x.sailings() <= -100 ? 1 : 0, want >= 0 ? 1 : 0);
    }

    private static void type() {
        FerryCrews x = new FerryCrews();
        for (int length = 1; length <= 60; length++) {
            due("type", x.type((char) (length * 1093)), length);
        }
        due("the 61st", x.type('0'), -3);
        due("the length", x.count(12), 60);
        due("no act", x.count(11), 0);
        due("the 61st again", x.type(';'), -3);
    }

    private static void clearText() {
        FerryCrews x = new FerryCrews();
        due("an empty text", x.clearText(), 0);
        Check.type(x, "0:0");
        due("three", x.clearText(), 3);
        due("empty", x.count(12), 0);
        due("its fault", x.fault(), 0);
        due("no act", x.count(11), 0);
        due("typed again", x.type('1'), 1);
        due("what was there is gone", x.fault(), 1);
    }

    private static void textIsNoPartOfAState() {
        FerryCrews x = new FerryCrews();
        Check.type(x, "0");
        x.keep();
        x.member(0, 5);
        Check.type(x, ":");
        x.restore();
        due("restore", x.count(12), 2);
        x.undo();
        due("undo", x.count(12), 2);
    }

    private static void faultsOfTheFerry() {
        fault("", 0);
        fault("0", 1);
        fault("5:", 2);
        fault("6", 0);
        fault("6:1+1=1000", 0);
        fault(":", 0);
        fault("-1:1+1=1000", 0);
        fault("00:1+1=1000", 1);
        fault("01:1+1=1000", 1);
        fault("10:1+1=1000", 1);
        fault("0;", 1);
        fault(" 0:1+1=1000", 0);
    }

    private static void faultsOfTheStart() {
        fault("0:0+1=1000", -5);
        fault("0:900+1=1000", -5);
        fault("0:899+1=1000", -5);
        fault("0:90+1=1000", -5);
        fault("0:9+1=1000", -5);
        fault("0:901+1=1000", 4);
        fault("0:909", 4);
        fault("0:910+1=1000", 4);
        fault("0:99+1=1000", -5);
        fault("0:990", 4);
        fault("0:9000", 5);
        fault("0:1000", 5);
        fault("0:00", 3);
        fault("0:01+1=1000", 3);
        fault("0:+", 2);
        fault("0:-1", 2);
        fault("0:9", 3);
        fault("0:900", 5);
        fault("0:9=", 3);
    }

    private static void faultsOfTheHours() {
        fault("0:0+12=1000", -5);
        fault("0:0+10=1000", -5);
        fault("0:0+11=1000", -5);
        fault("0:0+9=1000", -5);
        fault("0:0+13=1000", 5);
        fault("0:0+19", 5);
        fault("0:0+20", 5);
        fault("0:0+2=", 6);
        fault("0:0+0", 4);
        fault("0:0+01", 4);
        fault("0:0+120", 6);
        fault("0:0+=", 4);
        fault("0:0+", 4);
        fault("0:0+1", 5);
        fault("0:0+1:", 5);
    }

    private static void faultsOfTheSet() {
        fault("0:0+1=3333", -5);
        fault("0:0+1=0000", -5);
        fault("0:0+1=0001", -5);
        fault("0:0+1=4000", 6);
        fault("0:0+1=0400", 7);
        fault("0:0+1=0040", 8);
        fault("0:0+1=0004", 9);
        fault("0:0+1=00000", 10);
        fault("0:0+1=", 6);
        fault("0:0+1=1", 7);
        fault("0:0+1=100", 9);
        fault("0:0+1=100;", 9);
    }

    private static void faultsOfSeveral() {
        fault("0:0+1=1000;", 11);
        fault("0:0+1=1000;;", 11);
        fault("0:0+1=1000,", 10);
        fault("0:0+1=1000;6", 11);
        fault("0:0+1=1000;1:5+2=0100", -5);
        fault("0:0+1=1000;0:0+1=1000", -5);
        fault("0:0+1=1000;1:5+2=0100;2:901", 26);
        fault(";0:0+1=1000", 0);
        fault("0:0+1=1000;0:0+1=1000;0:0+1=1000;0:0+1=1000;0:0+1=1000", -5);
        fault("0:0+1=1000;0:0+1=1000;0:0+1=1000;0:0+1=1000;0:0+1=1000;0:0+1", 60);
        fault("5:900+12=3333;5:900+12=3333;5:900+12=3333;5:900+12=3333;5:90", 60);
        fault("5:900+12=3333;5:900+12=3333;5:900+12=3333;5:900+11=1333", -5);
    }

    private static void strangeCharacters() {
        for (char c : new char[] {0, 1, '/', ' ', 'a', 127, 200, 255, 0x130, 0x660, 0xff11, 0xffff}) {
            FerryCrews x = new FerryCrews();
            due("type " + (int) c, x.type(c), 1);
            due("fault of " + (int) c, x.fault(), 0);
            x.clearText();
            Check.type(x, "0:5");
            x.type(c);
            due("fault behind a number of " + (int) c, x.fault(), 3);
            x.clearText();
            Check.type(x, "0:0+1=1000");
            x.type(c);
            due("fault behind a sailing of " + (int) c, x.fault(), 10);
        }
    }
}
