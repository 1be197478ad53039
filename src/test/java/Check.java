/** Counts the answers of one test that are not as due; the process ends with 1 if there are any. */
final class Check {
    private final String name;
    private int asked;
    private int wrong;

    Check(String name) {
        this.name = name;
    }

    void due(String call, long got, long want) {
        asked++;
        if (got != want) {
            wrong++;
            System.out.println(name + ": " + call + " answered " + got + ", due is " + want);
        }
    }

    void holds(String what, boolean holds) {
        due(what, holds ? 1 : 0, 1);
    }

    /** Types a text; the answers are tested where type() is. */
    static void type(FerryCrews x, String text) {
        for (int at = 0; at < text.length(); at++) {
            x.type(text.charAt(at));
        }
    }

    /** An object whose rests are all 0, for what has nothing to do with rests; its history is full. */
    static FerryCrews withoutRests() {
        FerryCrews x = new FerryCrews();
        x.set(0, 0);
        x.set(1, 0);
        x.set(2, 0);
        return x;
    }

    void end() {
        System.out.println(name + ": " + asked + " answers, " + wrong + " not as due");
        if (asked == 0 || wrong != 0) {
            System.exit(1);
        }
    }
}
