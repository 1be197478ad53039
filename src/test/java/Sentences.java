import java.io.IOException;
import java.nio.file.Files;
import java.nio.file.Path;
import java.util.ArrayList;
import java.util.LinkedHashMap;
import java.util.LinkedHashSet;
import java.util.List;
import java.util.Map;
import java.util.Set;
import java.util.function.Supplier;
import java.util.function.ToIntFunction;

/**
 * Tests that belong to one sentence of the document each. A sentence without a test is a fault,
 * and so is a test whose sentence the document does not say (any more).
 */
abstract class Sentences {
    static final int UNKNOWN = -1;
    static final int BAD_VALUE = -2;
    static final int FULL = -3;
    static final int NOT_POSSIBLE = -4;
    static final int NONE = -5;
    static final int LEAST = Integer.MIN_VALUE;
    static final int GREATEST = Integer.MAX_VALUE;

    /** The number under which the section "Terms" stands; promises stand under their own. */
    static final int TERMS = 0;

    private static final Path DOCUMENT = Path.of("../shared/DOC.md");
    private static final int OTHER_SECTION = -1;
    /** Where a call stands in the interface, and headings: they tell nothing of what a call does. */
    private static final String NOT_TESTED = "Ahead of the calls .*|[A-Z, ]+";
    private static final int MOST_STATES = 4;

    private static final Map<Integer, Set<String>> UNTESTED = new LinkedHashMap<>();
    private static String name = "";
    private static int section = OTHER_SECTION;
    private static String sentence = "";
    private static int sentences;
    private static int asked;
    private static int wrong;

    /** The sentences of these sections are to be tested, all of them. */
    static void begin(String test, int first, int last) {
        name = test;
        Map<Integer, List<String>> document = read();
        for (int n = first; n <= last; n++) {
            List<String> all = document.getOrDefault(n, List.of());
            if (all.isEmpty()) {
                fault("the document has no section " + n);
            }
            UNTESTED.put(n, new LinkedHashSet<>(all));
        }
    }

    static void promise(int number) {
        section = number;
    }

    static void says(String text, Runnable test) {
        sentence = text;
        if (!UNTESTED.getOrDefault(section, Set.of()).remove(text)) {
            fault("the document does not say it, or it was tested already");
        }
        int before = asked;
        test.run();
        sentences++;
        if (asked == before) {
            fault("nothing is asked");
        }
    }

    static void due(String call, long got, long want) {
        asked++;
        if (got != want) {
            fault(call + " answered " + got + ", due is " + want);
        }
    }

    static void same(String what, String got, String want) {
        asked++;
        if (!got.equals(want)) {
            fault(what + " differs:\n  is  " + got + "\n  due " + want);
        }
    }

    private static void fault(String what) {
        wrong++;
        System.out.println(name + ", " + section + ", \"" + sentence + "\": " + what);
    }

    static void end() {
        sentence = "";
        UNTESTED.forEach((number, all) -> all.forEach(one -> {
            section = number;
            fault("no test: " + one);
        }));
        System.out.println(name + ": " + sentences + " sentences, " + asked + " answers, " + wrong + " not as due");
        if (wrong != 0) {
            System.exit(1);
        }
    }

    // ---- what an object tells

    static String told(FerryCrews x) {
        return "history " + x.count(11) + ", text " + x.count(12) + " " + x.fault() + ", " + state(x);
    }

    /** All that is told of the state; of many sailings and members, of the first and the last ones. */
    static String state(FerryCrews x) {
        StringBuilder all = new StringBuilder("count");
        for (int what = 0; what <= 17; what++) {
            if (what != 11 && what != 12) {
                all.append(' ').append(x.count(what));
            }
        }
        int sailings = x.count(1);
        for (int n = 0; n < sailings; n++) {
            if (n < 3 || n >= sailings - 3) {
                tellSailing(x, n, all);
            }
        }
        int members = x.count(5);
        for (int n = 0; n < members; n++) {
            if (n < 3 || n >= members - 2) {
                all.append(", member ").append(n);
                for (int what = 0; what <= 9; what++) {
                    all.append(' ').append(x.memberOf(n, what));
                }
            }
        }
        for (int role = 0; role < 4; role++) {
            all.append(", ladder ").append(role);
            for (int rank = 0; rank < 12 && x.ladder(role, rank) != NONE; rank++) {
                all.append(' ').append(x.ladder(role, rank));
            }
        }
        return all.toString();
    }

    private static void tellSailing(FerryCrews x, int n, StringBuilder all) {
        all.append(", sailing ").append(n);
        for (int what = 0; what <= 6; what++) {
            all.append(' ').append(x.sailingOf(n, what));
        }
        all.append(" crew");
        for (int rank = 0; rank < 12 && x.crew(n, rank, 0) != NONE; rank++) {
            all.append(' ').append(x.crew(n, rank, 0)).append('/').append(x.crew(n, rank, 1));
            all.append('/').append(x.crew(n, rank, 2));
        }
    }

    /**
     * What there is to be known of an object: what it tells, what it tells after each undo, after restore,
     * and after the text was added. Each is told by an object of its own, as one is good for 512 calls only.
     */
    private static List<String> known(Supplier<FerryCrews> made) {
        List<String> all = new ArrayList<>();
        for (int undone = 0; undone <= MOST_STATES; undone++) {
            FerryCrews x = made.get();
            StringBuilder answers = new StringBuilder();
            for (int n = 0; n < undone; n++) {
                answers.append("undo ").append(x.undo()).append(", ");
            }
            all.add(answers + told(x));
        }
        FerryCrews restored = made.get();
        all.add("restore " + restored.restore() + ", " + told(restored));
        FerryCrews added = made.get();
        all.add("sailings " + added.sailings() + ", " + told(added));
        return all;
    }

    private static void sameInAll(String call, Supplier<FerryCrews> got, Supplier<FerryCrews> want) {
        List<String> is = known(got);
        List<String> due = known(want);
        for (int n = 0; n < is.size(); n++) {
            same(call + ": what is known (" + n + ")", is.get(n), due.get(n));
        }
    }

    /** The call answers so, and changes nothing. */
    static void unchanged(String call, Supplier<FerryCrews> made, ToIntFunction<FerryCrews> called, int want) {
        due(call, called.applyAsInt(made.get()), want);
        sameInAll(call, () -> {
            FerryCrews x = made.get();
            called.applyAsInt(x);
            return x;
        }, made);
    }

    /** The call answers so, and records one state, that which was before it. The object's history has room for one. */
    static void act(String call, Supplier<FerryCrews> made, ToIntFunction<FerryCrews> called, int want) {
        FerryCrews x = made.get();
        int before = x.count(11);
        due(call, called.applyAsInt(x), want);
        due(call + ": states", x.count(11), before + 1);
        due(call + ": undo", x.undo(), before);
        sameInAll(call + ", undo()", () -> {
            FerryCrews y = made.get();
            called.applyAsInt(y);
            y.undo();
            return y;
        }, made);
    }

    // ---- objects to begin with

    /** An object whose rests are all 0, for what has nothing to do with rests. */
    static FerryCrews withoutRests() {
        FerryCrews x = new FerryCrews();
        x.set(0, 0);
        x.set(1, 0);
        x.set(2, 0);
        return x;
    }

    /** As withoutRests(), and without handovers: a duty has the hours of its sailing. */
    static FerryCrews plain() {
        FerryCrews x = withoutRests();
        x.set(3, 0);
        return x;
    }

    /**
     * An object with something of everything. Sailing 0 sailed, 1 was cancelled, 2 has member 0 and two free places,
     * 3 has 1 and 2 and none free. Member 3 is sick. The hour of now is 5. Two states are in the history;
     * the snapshot and the text have something of their own.
     */
    static FerryCrews harbour() {
        FerryCrews x = withoutRests();
        x.member(0, 900);
        x.member(0, 900);
        x.member(1, 900);
        x.certify(0, 1, 900);
        x.sailing(0, 0, 4, 1000);
        x.sailing(1, 2, 4, 1000);
        x.sailing(0, 10, 4, 2100);
        x.sailing(2, 30, 5, 1100);
        x.give(0, 0, 0);
        x.give(0, 2, 0);
        x.give(1, 3, 0);
        x.give(2, 3, 1);
        x.member(2, 30);
        x.sick(3, 11);
        x.pass(5);
        clearHistory(x);
        x.climb(1, 3);
        x.keep();
        x.undo();
        x.climb(0, 2);
        type(x, "4:50+4=1000;5:50+4=0200");
        return x;
    }

    /** The state stays, one is left in the history; the snapshot becomes the same. */
    static void clearHistory(FerryCrews x) {
        x.keep();
        for (int left = x.count(11); left > 0; left--) {
            x.undo();
        }
        x.restore();
    }

    static void type(FerryCrews x, String text) {
        for (int at = 0; at < text.length(); at++) {
            x.type(text.charAt(at));
        }
    }

    /** Members of one role with certificates that end late. */
    static void members(FerryCrews x, int many, int role) {
        for (int n = 0; n < many; n++) {
            x.member(role, 9999);
        }
    }

    /** Adds a sailing of one place of the role 0 and gives it to a member; tells what give() answers. */
    static int duty(FerryCrews x, int member, int ferry, int start, int hours) {
        return x.give(member, x.sailing(ferry, start, hours, 1000), 0);
    }

    // ---- the document

    private static Map<Integer, List<String>> read() {
        Map<Integer, List<String>> sections = new LinkedHashMap<>();
        List<String> open = new ArrayList<>();
        try {
            for (String line : Files.readAllLines(DOCUMENT)) {
                if (line.startsWith("## ")) {
                    open = new ArrayList<>();
                    sections.put(numberOf(line), open);
                } else if (!line.matches(NOT_TESTED)) {
                    open.addAll(sentencesOf(withoutSignature(line)));
                }
            }
        } catch (IOException e) {
            throw new IllegalStateException(e);
        }
        return sections;
    }

    private static int numberOf(String heading) {
        String promise = "## Promise ";
        if (heading.startsWith(promise)) {
            return Integer.parseInt(heading.substring(promise.length(), heading.indexOf(':')));
        }
        return heading.equals("## Terms") ? TERMS : OTHER_SECTION;
    }

    private static String withoutSignature(String line) {
        boolean isSignature = line.matches("`(int )?\\w+\\(.*\\)`: .*");
        String rest = isSignature ? line.substring(line.indexOf("`: ") + 3) : line;
        return rest.startsWith("- ") ? rest.substring(2) : rest;
    }

    /** Parts that end with a full stop or a semicolon outside of parentheses. */
    private static List<String> sentencesOf(String line) {
        List<String> all = new ArrayList<>();
        int depth = 0;
        int from = 0;
        for (int at = 0; at < line.length(); at++) {
            char c = line.charAt(at);
            depth += c == '(' ? 1 : c == ')' ? -1 : 0;
            boolean isLast = at == line.length() - 1;
            boolean isMark = depth == 0 && (c == '.' || c == ';');
            if (isLast || isMark && line.charAt(at + 1) == ' ') {
                all.add(line.substring(from, isMark ? at : at + 1).trim());
                from = at + 1;
            }
        }
        return all;
    }
}
