import java.lang.reflect.Method;
import java.util.ArrayList;
import java.util.Arrays;
import java.util.List;
import java.util.Random;

/** Runs of calls on FerryCrews and on Model at once: every answer has to be the same. */
public final class ModelTest {
    private static final int RUNS = 160;
    private static final int CALLS = 512;
    private static final int MOST_TOLD = 10;

    /** Weight, name and what is put in for each argument. */
    private static final String[] CALLABLE = {
        "8 sailing ferry start lasting set", "2 sailings", "1 cancel sailing",
        "4 member role end", "8 certify member role end", "8 climb member role", "2 leave member role",
        "10 sick member sickness", "4 well member",
        "30 give member sailing role", "6 giveUp member sailing", "16 fill sailing", "4 pass passing", "5 set which value",
        "3 type character", "1 clearText", "3 fault",
        "3 undo", "1 keep", "1 restore",
        "5 sailingOf sailing 7", "8 crew sailing rank 3", "10 memberOf member 10", "3 ladder role rank",
        "4 rest member hour row", "8 leastRest member 3", "4 overtime member week", "8 count 18",
        "8 why member sailing role", "6 able sailing role", "8 ifSick member sickness", "4 weakest sickness",
        "2 atRisk", "2 cancelledIn ahead", "2 freshest"};
    private static final String[] TYPING = {
        "100 type character", "1 clearText", "12 fault", "2 sailings", "1 undo", "1 pass passing", "1 cancel sailing"};
    private static final int[] WRONG = {-1, -2, 3, 4, 5, 6, 7, 10, 12, 18, 48, 1001, 10000, Integer.MIN_VALUE, Integer.MAX_VALUE};

    private final Random random;
    private final int kind;
    private final FerryCrews crews = new FerryCrews();
    private final Model model = new Model();
    private final List<String> done = new ArrayList<>();
    private String toType = "";
    private int lastSailing = 0;

    private ModelTest(int run) {
        random = new Random(7919L * run + 1);
        kind = run % 8;
    }

    public static void main(String[] args) throws ReflectiveOperationException {
        int wrong = 0;
        for (int run = 0; run < RUNS && wrong < MOST_TOLD; run++) {
            wrong += new ModelTest(run).go(run) ? 0 : 1;
        }
        System.out.println("ModelTest: " + RUNS + " runs of " + CALLS + " calls, " + wrong + " wrong");
        if (wrong != 0) {
            System.exit(1);
        }
    }

    private boolean go(int run) throws ReflectiveOperationException {
        List<String> start = opening();
        for (int call = 0; call < CALLS; call++) {
            String[] words = call < start.size() ? start.get(call).split(" ") : drawCall();
            boolean drawn = call >= start.size();
            Object[] arguments = new Object[words.length - 1];
            for (int i = 1; i < words.length; i++) {
                boolean isNumber = words[i].matches("-?[0-9]+");
                arguments[i - 1] = isNumber && !drawn ? (Object) Integer.valueOf(words[i]) : draw(words[i]);
            }
            Object got = answer(crews, words[0], arguments);
            Object due = answer(model, words[0], arguments);
            done.add(words[0] + Arrays.toString(arguments) + " " + got);
            if (!got.equals(due)) {
                System.out.println("run " + run + ", due is " + due + " for the last of:\n" + String.join("\n", done));
                return false;
            }
        }
        return true;
    }

    /** What makes the kinds of runs differ. */
    private List<String> opening() {
        List<String> calls = new ArrayList<>();
        boolean withoutRests = kind == 1 || kind == 4 || kind == 5;
        boolean withSomeRests = kind == 2 || kind == 6;
        boolean late = kind == 3;
        boolean manySailings = kind == 4 || kind == 6;
        boolean manyMembers = kind == 5 || kind == 6;
        if (withoutRests) {
            calls.addAll(List.of("set 0 0", "set 1 0", "set 2 0"));
        }
        if (withSomeRests) {
            calls.add("set 0 " + random.nextInt(12));
            calls.add("set 1 " + random.nextInt(8));
            calls.add("set 2 " + random.nextInt(100));
        }
        if (late) {
            calls.addAll(List.of("pass 200", "pass 200", "pass 200", "pass 200", "pass " + (40 + random.nextInt(60))));
        }
        for (int n = 0; manySailings && n < 46; n++) {
            int set = new int[] {1000, 100, 10, 1100, 2000, 110}[n * 5 % 6];
            calls.add("sailing " + n % 6 + " " + (n / 6 * 12 + n % 6) + " " + (1 + n * 7 % 12) + " " + set);
        }
        for (int n = 0; n < (manyMembers ? 12 : 4); n++) {
            calls.add("member " + n % 3 + " 950");
            calls.add("certify " + n + " " + (n + 1) % 3 + " 950");
            calls.add("climb " + n + " " + (n + 1) % 3);
        }
        return calls;
    }

    private String[] drawCall() {
        if (kind == 7 && random.nextInt(4) == 0) {
            int fault = model.fault();
            if (fault != model.count(12)) {
                return new String[] {fault == FerryCrews.NONE && random.nextInt(3) > 0 ? "sailings" : "clearText"};
            }
        }
        String[] callable = kind == 7 ? TYPING : CALLABLE;
        int all = 0;
        for (String one : callable) {
            all += Integer.parseInt(one.split(" ")[0]);
        }
        int at = random.nextInt(all);
        for (String one : callable) {
            at -= Integer.parseInt(one.split(" ")[0]);
            if (at < 0) {
                return one.substring(one.indexOf(' ') + 1).split(" ");
            }
        }
        throw new IllegalStateException();
    }

    private Object draw(String what) {
        if (what.equals("character")) {
            return drawCharacter();
        }
        if (random.nextInt(50) == 0) {
            return WRONG[random.nextInt(WRONG.length)];
        }
        if (what.matches("[0-9]+")) {
            return random.nextInt(Integer.parseInt(what));
        }
        int now = model.count(0);
        switch (what) {
            case "ferry": return random.nextInt(random.nextBoolean() ? 2 : 6);
            case "start": return drawStart(now);
            case "lasting": return 1 + random.nextInt(random.nextBoolean() ? 5 : 12);
            case "set": return drawSet();
            case "sailing": return drawSailing();
            case "member": return random.nextInt(Math.max(1, model.count(5)));
            case "role": return drawRole();
            case "end": return random.nextInt(6) == 0 ? random.nextInt(now + 60) : 900 + random.nextInt(9100);
            case "sickness": return random.nextInt(random.nextInt(4) == 0 ? 402 : 60);
            case "passing": return random.nextInt(kind == 0 && random.nextInt(10) == 0 ? 202 : 8);
            case "which": return random.nextInt(5);
            case "value": return random.nextInt(4) == 0 ? random.nextInt(142) : random.nextInt(14);
            case "rank": return random.nextInt(4);
            case "hour": return Math.max(0, Math.min(now - 30 + random.nextInt(100), 1000 + random.nextInt(2)));
            case "row": return 1 + random.nextInt(random.nextInt(2) == 0 ? 168 : 30);
            case "week": return random.nextInt(3) == 0 ? random.nextInt(7) : now / 168;
            case "ahead": return random.nextInt(3) == 0 ? random.nextInt(1002) : random.nextInt(60);
            default: throw new IllegalStateException(what);
        }
    }

    /** Often the end of another sailing, where the handover is different. */
    private int drawStart(int now) {
        if (model.count(1) > 0 && random.nextInt(2) == 0) {
            return model.sailingOf(random.nextInt(model.count(1)), 3);
        }
        int start = now + random.nextInt(random.nextInt(4) == 0 ? 300 : 60);
        return Math.min(start, 900 + random.nextInt(2));
    }

    /** Mostly an open one. */
    private int drawSailing() {
        int many = Math.max(1, model.count(1));
        lastSailing = random.nextInt(many);
        for (int turn = 0; turn < 6 && model.sailingOf(lastSailing, 0) != 0; turn++) {
            lastSailing = random.nextInt(many);
        }
        return lastSailing;
    }

    /** Mostly one that the sailing drawn before has places of. */
    private int drawRole() {
        int role = random.nextInt(4);
        for (int turn = 0; turn < 4 && drawnSetOf(role) == 0; turn++) {
            role = random.nextInt(4);
        }
        return role;
    }

    private int drawnSetOf(int role) {
        return String.format("%04d", Math.max(0, model.sailingOf(lastSailing, 4))).charAt(role) - '0';
    }

    private int drawSet() {
        int set = 0;
        for (int role = 0; role < 4; role++) {
            set = set * 10 + (random.nextInt(3) == 0 ? 1 + random.nextInt(random.nextInt(8) == 0 ? 4 : 1) : 0);
        }
        return set;
    }

    /** Mostly the next character of a sailing that could be added. */
    private char drawCharacter() {
        if (random.nextInt(200) == 0) {
            return (char) random.nextInt(0x10000);
        }
        if (random.nextInt(80) == 0) {
            return "0123456789:+=;".charAt(random.nextInt(14));
        }
        if (model.count(12) == 0) {
            toType = "";
        }
        if (toType.isEmpty()) {
            int start = random.nextInt(8) == 0 ? random.nextInt(1100) : model.count(0) + random.nextInt(80);
            int lasting = 1 + random.nextInt(random.nextInt(8) == 0 ? 15 : 8);
            toType = random.nextInt(random.nextInt(8) == 0 ? 8 : 6) + ":" + start + "+" + lasting + "=" + String.format("%04d", drawSet());
            toType = model.count(12) == 0 ? toType : ";" + toType;
        }
        char next = toType.charAt(0);
        toType = toType.substring(1);
        return next;
    }

    private static Object answer(Object target, String name, Object[] arguments) throws ReflectiveOperationException {
        Class<?>[] types = new Class<?>[arguments.length];
        for (int i = 0; i < types.length; i++) {
            types[i] = arguments[i] instanceof Character ? char.class : int.class;
        }
        Method method = target.getClass().getMethod(name, types);
        method.setAccessible(true);
        return method.invoke(target, arguments);
    }
}
