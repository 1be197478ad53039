import java.util.ArrayDeque;
import java.util.ArrayList;
import java.util.Comparator;
import java.util.Deque;
import java.util.List;
import java.util.Map;
import java.util.TreeMap;
import java.util.regex.Matcher;
import java.util.regex.Pattern;

/**
 * The document once more, written as slowly and as close to its words as can be, for ModelTest:
 * every rest is looked at in every row of hours, and every state is a deep copy.
 */
final class Model {
    private static final int HOURS = 1300;
    private static final int LAST_ROW = 1000;
    private static final int[] HIGHEST = {20, 12, 140, 1, 100};
    private static final Pattern TEXT;

    static {
        String one = "[0-5]:(0|[1-9][0-9]?|[1-8][0-9][0-9]|900)\\+([1-9]|1[0-2])=[0-3][0-3][0-3][0-3]";
        TEXT = Pattern.compile(one + "(;" + one + ")*");
    }

    private static final class Sailing {
        int ferry;
        int start;
        int end;
        int set;
        int status;
        TreeMap<Integer, Integer> crew = new TreeMap<>();

        int places(int role) {
            return String.format("%04d", set).charAt(role) - '0';
        }

        int taken(int role) {
            return (int) crew.values().stream().filter(r -> r == role).count();
        }

        int places() {
            return places(0) + places(1) + places(2) + places(3);
        }

        int free() {
            return places() - crew.size();
        }
    }

    private static final class Member {
        int[] ends = new int[4];
        int sickUntil;
        int covers;
    }

    private static final class State {
        int now;
        int[] settings = {10, 6, 77, 1, 48};
        List<Sailing> sailings = new ArrayList<>();
        List<Member> members = new ArrayList<>();
        List<List<Integer>> ladders = new ArrayList<>();

        State() {
            for (int role = 0; role < 4; role++) {
                ladders.add(new ArrayList<>());
            }
        }

        State copy() {
            State c = new State();
            c.now = now;
            c.settings = settings.clone();
            for (Sailing s : sailings) {
                Sailing t = new Sailing();
                t.ferry = s.ferry;
                t.start = s.start;
                t.end = s.end;
                t.set = s.set;
                t.status = s.status;
                t.crew.putAll(s.crew);
                c.sailings.add(t);
            }
            for (Member m : members) {
                Member n = new Member();
                n.ends = m.ends.clone();
                n.sickUntil = m.sickUntil;
                n.covers = m.covers;
                c.members.add(n);
            }
            for (int role = 0; role < 4; role++) {
                c.ladders.get(role).addAll(ladders.get(role));
            }
            return c;
        }

        int begin(Sailing s, int member) {
            if (settings[3] == 0 || s.start == 0) {
                return s.start;
            }
            for (Sailing t : sailings) {
                if (t != s && t.ferry == s.ferry && t.status != 2 && t.end == s.start && t.crew.containsKey(member)) {
                    return s.start;
                }
            }
            return s.start - 1;
        }

        /** How many duties have each hour. */
        int[] duties(int member) {
            int[] duties = new int[HOURS];
            for (Sailing s : sailings) {
                if (s.status != 2 && s.crew.containsKey(member)) {
                    for (int h = begin(s, member); h < s.end; h++) {
                        duties[h]++;
                    }
                }
            }
            return duties;
        }

        boolean restsHold(int member) {
            int[] duties = duties(member);
            for (int d : duties) {
                if (d > 1) {
                    return false;
                }
            }
            int[] rests = restsBefore(duties);
            for (int w = 0; w <= LAST_ROW; w++) {
                int day = rests[w + 24] - rests[w];
                if (day < settings[0] || rests[w + 168] - rests[w] < settings[2]) {
                    return false;
                }
                if (day < 24 && longest(duties, w) < settings[1]) {
                    return false;
                }
            }
            return true;
        }

        int why(int member, int number, int role) {
            Sailing s = sailings.get(number);
            if (s.status != 0 || s.start < now) {
                return 1;
            }
            if (s.taken(role) >= s.places(role)) {
                return 2;
            }
            if (members.get(member).ends[role] < s.end) {
                return 3;
            }
            for (int h = s.start; h < s.end; h++) {
                if (h < members.get(member).sickUntil) {
                    return 4;
                }
            }
            if (s.crew.containsKey(member)) {
                return 5;
            }
            s.crew.put(member, role);
            boolean hold = restsHold(member);
            s.crew.remove(member);
            return hold ? 0 : 6;
        }

        boolean cover(int number, int role) {
            for (int member : ladders.get(role)) {
                if (why(member, number, role) == 0) {
                    sailings.get(number).crew.put(member, role);
                    members.get(member).covers++;
                    return true;
                }
            }
            return false;
        }

        int sick(int member, int hours) {
            int until = now + hours;
            members.get(member).sickUntil = until;
            Map<Integer, Integer> given = new TreeMap<>();
            for (int n = 0; n < sailings.size(); n++) {
                Sailing s = sailings.get(n);
                boolean misses = s.status == 0 && s.start >= now && s.start < until;
                if (misses && s.crew.containsKey(member)) {
                    given.put(n, s.crew.remove(member));
                }
            }
            List<Integer> order = new ArrayList<>(given.keySet());
            order.sort(Comparator.comparingInt((Integer n) -> sailings.get(n).start).thenComparingInt(n -> n));
            int free = 0;
            for (int n : order) {
                if (!cover(n, given.get(n))) {
                    free++;
                }
            }
            return free;
        }

        int add(int ferry, int start, int hours, int set) {
            if (ferry < 0 || ferry > 5) {
                return FerryCrews.UNKNOWN;
            }
            boolean digits = set > 0 && set < 10000 && String.format("%04d", set).matches("[0-3]{4}");
            if (start < now || start > 900 || hours < 1 || hours > 12 || !digits) {
                return FerryCrews.BAD_VALUE;
            }
            for (Sailing s : sailings) {
                for (int h = start; h < start + hours; h++) {
                    if (s.ferry == ferry && s.status != 2 && h >= s.start && h < s.end) {
                        return FerryCrews.NOT_POSSIBLE;
                    }
                }
            }
            if (sailings.size() == 48) {
                return FerryCrews.FULL;
            }
            Sailing s = new Sailing();
            s.ferry = ferry;
            s.start = start;
            s.end = start + hours;
            s.set = set;
            sailings.add(s);
            return sailings.size() - 1;
        }

        void hour() {
            for (Sailing s : sailings) {
                if (s.status == 0 && s.start == now) {
                    s.status = s.free() == 0 ? 1 : 2;
                    if (s.status == 2) {
                        s.crew.clear();
                    }
                }
            }
            now++;
        }

        int dutyHours(int member) {
            int sum = 0;
            for (int d : duties(member)) {
                sum += d;
            }
            return sum;
        }

        int overtime(int member, int week) {
            int[] rests = restsBefore(duties(member));
            return Math.max(0, 168 - (rests[168 * week + 168] - rests[168 * week]) - settings[4]);
        }
    }

    private static int[] restsBefore(int[] duties) {
        int[] before = new int[HOURS + 1];
        for (int h = 0; h < HOURS; h++) {
            before[h + 1] = before[h] + (duties[h] == 0 ? 1 : 0);
        }
        return before;
    }

    private static int longest(int[] duties, int from) {
        int longest = 0;
        int run = 0;
        for (int h = from; h < from + 24; h++) {
            run = duties[h] == 0 ? run + 1 : 0;
            longest = Math.max(longest, run);
        }
        return longest;
    }

    private State s = new State();
    private State snapshot = null;
    private final Deque<State> history = new ArrayDeque<>();
    private final StringBuilder text = new StringBuilder();

    private void record(State before) {
        history.addLast(before);
        if (history.size() > 4) {
            history.removeFirst();
        }
    }

    private boolean isMember(int member) {
        return member >= 0 && member < s.members.size();
    }

    private boolean isSailing(int sailing) {
        return sailing >= 0 && sailing < s.sailings.size();
    }

    private static boolean isRole(int role) {
        return role >= 0 && role < 4;
    }

    public int sailing(int ferry, int start, int hours, int set) {
        State before = s.copy();
        int answer = s.add(ferry, start, hours, set);
        if (answer >= 0) {
            record(before);
        }
        return answer;
    }

    public int sailings() {
        if (fault() != FerryCrews.NONE) {
            return -100 - fault();
        }
        State before = s.copy();
        String[] all = text.toString().split(";");
        for (String one : all) {
            String[] n = one.split("[:+=]");
            int answer = s.add(Integer.parseInt(n[0]), Integer.parseInt(n[1]), Integer.parseInt(n[2]), Integer.parseInt(n[3]));
            if (answer < 0) {
                s = before;
                return answer;
            }
        }
        record(before);
        return all.length;
    }

    public int cancel(int sailing) {
        if (!isSailing(sailing)) {
            return FerryCrews.UNKNOWN;
        }
        Sailing found = s.sailings.get(sailing);
        if (found.status != 0) {
            return FerryCrews.NOT_POSSIBLE;
        }
        record(s.copy());
        int had = found.crew.size();
        found.crew.clear();
        found.status = 2;
        return had;
    }

    public int member(int role, int end) {
        if (!isRole(role)) {
            return FerryCrews.UNKNOWN;
        }
        if (end < 0 || end > 9999) {
            return FerryCrews.BAD_VALUE;
        }
        if (s.members.size() == 12) {
            return FerryCrews.FULL;
        }
        record(s.copy());
        Member m = new Member();
        m.ends[role] = end;
        s.members.add(m);
        s.ladders.get(role).add(s.members.size() - 1);
        return s.members.size() - 1;
    }

    public int certify(int member, int role, int end) {
        if (!isMember(member) || !isRole(role)) {
            return FerryCrews.UNKNOWN;
        }
        if (end < 0 || end > 9999) {
            return FerryCrews.BAD_VALUE;
        }
        for (Sailing t : s.sailings) {
            if (t.status == 0 && t.end > end && t.crew.getOrDefault(member, -1) == role) {
                return FerryCrews.NOT_POSSIBLE;
            }
        }
        record(s.copy());
        int previous = s.members.get(member).ends[role];
        s.members.get(member).ends[role] = end;
        return previous;
    }

    public int climb(int member, int role) {
        if (!isMember(member) || !isRole(role)) {
            return FerryCrews.UNKNOWN;
        }
        record(s.copy());
        s.ladders.get(role).remove((Integer) member);
        s.ladders.get(role).add(member);
        return s.ladders.get(role).size();
    }

    public int leave(int member, int role) {
        if (!isMember(member) || !isRole(role)) {
            return FerryCrews.UNKNOWN;
        }
        if (!s.ladders.get(role).contains(member)) {
            return FerryCrews.NONE;
        }
        record(s.copy());
        s.ladders.get(role).remove((Integer) member);
        return s.ladders.get(role).size();
    }

    public int sick(int member, int hours) {
        if (!isMember(member)) {
            return FerryCrews.UNKNOWN;
        }
        if (hours < 1 || hours > 400) {
            return FerryCrews.BAD_VALUE;
        }
        record(s.copy());
        return s.sick(member, hours);
    }

    public int well(int member) {
        if (!isMember(member)) {
            return FerryCrews.UNKNOWN;
        }
        int left = s.members.get(member).sickUntil - s.now;
        if (left <= 0) {
            return FerryCrews.NONE;
        }
        record(s.copy());
        s.members.get(member).sickUntil = s.now;
        return left;
    }

    public int give(int member, int sailing, int role) {
        int why = why(member, sailing, role);
        if (why == 0) {
            record(s.copy());
            s.sailings.get(sailing).crew.put(member, role);
        }
        return why;
    }

    public int giveUp(int member, int sailing) {
        if (!isMember(member) || !isSailing(sailing)) {
            return FerryCrews.UNKNOWN;
        }
        Sailing found = s.sailings.get(sailing);
        if (found.status != 0) {
            return FerryCrews.NOT_POSSIBLE;
        }
        if (!found.crew.containsKey(member)) {
            return FerryCrews.NONE;
        }
        record(s.copy());
        return found.crew.remove(member);
    }

    public int fill(int sailing) {
        if (!isSailing(sailing)) {
            return FerryCrews.UNKNOWN;
        }
        Sailing found = s.sailings.get(sailing);
        if (found.status != 0) {
            return FerryCrews.NOT_POSSIBLE;
        }
        if (found.free() == 0) {
            return FerryCrews.NONE;
        }
        record(s.copy());
        for (int role = 0; role < 4; role++) {
            int free = found.places(role) - found.taken(role);
            for (int place = 0; place < free; place++) {
                s.cover(sailing, role);
            }
        }
        return found.free();
    }

    public int pass(int hours) {
        if (hours < 1 || hours > 200) {
            return FerryCrews.BAD_VALUE;
        }
        if (s.now + hours > 1000) {
            return FerryCrews.FULL;
        }
        record(s.copy());
        for (int h = 0; h < hours; h++) {
            s.hour();
        }
        return s.now;
    }

    public int set(int which, int value) {
        if (which < 0 || which > 4 || value < 0 || value > HIGHEST[which]) {
            return FerryCrews.BAD_VALUE;
        }
        int previous = s.settings[which];
        if (previous == value) {
            return FerryCrews.NONE;
        }
        State before = s.copy();
        s.settings[which] = value;
        for (int m = 0; m < s.members.size(); m++) {
            if (!s.restsHold(m)) {
                s = before;
                return FerryCrews.NOT_POSSIBLE;
            }
        }
        record(before);
        return previous;
    }

    public int type(char character) {
        if (text.length() == 60) {
            return FerryCrews.FULL;
        }
        return text.append(character).length();
    }

    public int clearText() {
        int length = text.length();
        text.setLength(0);
        return length;
    }

    public int fault() {
        for (int i = 1; i <= text.length(); i++) {
            Matcher m = TEXT.matcher(text.substring(0, i));
            if (!m.matches() && !m.hitEnd()) {
                return i - 1;
            }
        }
        return TEXT.matcher(text).matches() ? FerryCrews.NONE : text.length();
    }

    public int undo() {
        if (history.isEmpty()) {
            return FerryCrews.NONE;
        }
        s = history.removeLast();
        return history.size();
    }

    public int keep() {
        snapshot = s.copy();
        return s.now;
    }

    public int restore() {
        if (snapshot == null) {
            return FerryCrews.NONE;
        }
        record(s);
        s = snapshot.copy();
        return s.now;
    }

    public int sailingOf(int sailing, int what) {
        if (!isSailing(sailing)) {
            return FerryCrews.UNKNOWN;
        }
        if (what < 0 || what > 6) {
            return FerryCrews.BAD_VALUE;
        }
        Sailing f = s.sailings.get(sailing);
        return new int[] {f.status, f.ferry, f.start, f.end, f.set, f.places(), f.free()}[what];
    }

    public int crew(int sailing, int rank, int what) {
        if (!isSailing(sailing)) {
            return FerryCrews.UNKNOWN;
        }
        if (rank < 0 || what < 0 || what > 2) {
            return FerryCrews.BAD_VALUE;
        }
        Sailing f = s.sailings.get(sailing);
        List<Integer> all = new ArrayList<>(f.crew.keySet());
        all.sort(Comparator.comparingInt((Integer m) -> f.crew.get(m)).thenComparingInt(m -> m));
        if (rank >= all.size()) {
            return FerryCrews.NONE;
        }
        int member = all.get(rank);
        return new int[] {member, f.crew.get(member), s.begin(f, member)}[what];
    }

    public int memberOf(int member, int what) {
        if (!isMember(member)) {
            return FerryCrews.UNKNOWN;
        }
        if (what < 0 || what > 9) {
            return FerryCrews.BAD_VALUE;
        }
        Member m = s.members.get(member);
        if (what < 4) {
            return m.ends[what];
        }
        int[] on = new int[3];
        int next = FerryCrews.NONE;
        for (int n = 0; n < s.sailings.size(); n++) {
            Sailing f = s.sailings.get(n);
            if (f.crew.containsKey(member)) {
                on[f.status]++;
                if (f.status == 0 && (next < 0 || f.start < s.sailings.get(next).start)) {
                    next = n;
                }
            }
        }
        int until = m.sickUntil > s.now ? m.sickUntil : FerryCrews.NONE;
        return new int[] {until, on[0], on[1], s.dutyHours(member), m.covers, next}[what - 4];
    }

    public int ladder(int role, int rank) {
        if (!isRole(role)) {
            return FerryCrews.UNKNOWN;
        }
        if (rank < 0) {
            return FerryCrews.BAD_VALUE;
        }
        List<Integer> l = s.ladders.get(role);
        return rank < l.size() ? l.get(rank) : FerryCrews.NONE;
    }

    public int rest(int member, int from, int hours) {
        if (!isMember(member)) {
            return FerryCrews.UNKNOWN;
        }
        if (from < 0 || from > 1000 || hours < 1 || hours > 168) {
            return FerryCrews.BAD_VALUE;
        }
        int[] rests = restsBefore(s.duties(member));
        return rests[from + hours] - rests[from];
    }

    public int leastRest(int member, int what) {
        if (!isMember(member)) {
            return FerryCrews.UNKNOWN;
        }
        if (what < 0 || what > 2) {
            return FerryCrews.BAD_VALUE;
        }
        int[] duties = s.duties(member);
        int[] rests = restsBefore(duties);
        int least = 24;
        int first = 0;
        int leastLong = 24;
        for (int w = 0; w <= LAST_ROW; w++) {
            int rest = rests[w + 24] - rests[w];
            if (rest < least) {
                least = rest;
                first = w;
            }
            leastLong = Math.min(leastLong, longest(duties, w));
        }
        return new int[] {least, first, leastLong}[what];
    }

    public int overtime(int member, int week) {
        if (!isMember(member) || week < 0 || week > 5) {
            return FerryCrews.UNKNOWN;
        }
        return s.overtime(member, week);
    }

    public int count(int what) {
        if (what < 0 || what > 17) {
            return FerryCrews.BAD_VALUE;
        }
        int[] by = new int[3];
        int free = 0;
        int taken = 0;
        for (Sailing f : s.sailings) {
            by[f.status]++;
            if (f.status == 0) {
                free += f.free();
                taken += f.crew.size();
            }
        }
        int sick = 0;
        int covers = 0;
        int beyond = 0;
        for (int m = 0; m < s.members.size(); m++) {
            sick += s.members.get(m).sickUntil > s.now ? 1 : 0;
            covers += s.members.get(m).covers;
            for (int week = 0; week < 6; week++) {
                beyond += s.overtime(m, week);
            }
        }
        int[] told = {s.now, s.sailings.size(), by[0], by[1], by[2], s.members.size(), sick, free, taken, covers, beyond,
            history.size(), text.length()};
        return what < 13 ? told[what] : s.settings[what - 13];
    }

    public int why(int member, int sailing, int role) {
        if (!isMember(member) || !isSailing(sailing) || !isRole(role)) {
            return FerryCrews.UNKNOWN;
        }
        return s.why(member, sailing, role);
    }

    public int able(int sailing, int role) {
        if (!isSailing(sailing) || !isRole(role)) {
            return FerryCrews.UNKNOWN;
        }
        int bits = 0;
        for (int m = 0; m < s.members.size(); m++) {
            bits += s.why(m, sailing, role) == 0 ? 1 << m : 0;
        }
        return bits;
    }

    public int ifSick(int member, int hours) {
        if (!isMember(member)) {
            return FerryCrews.UNKNOWN;
        }
        if (hours < 1 || hours > 400) {
            return FerryCrews.BAD_VALUE;
        }
        return s.copy().sick(member, hours);
    }

    public int weakest(int hours) {
        if (hours < 1 || hours > 400) {
            return FerryCrews.BAD_VALUE;
        }
        int weakest = FerryCrews.NONE;
        int most = -1;
        for (int m = 0; m < s.members.size(); m++) {
            int free = s.copy().sick(m, hours);
            if (free > most) {
                most = free;
                weakest = m;
            }
        }
        return weakest;
    }

    public int atRisk() {
        int first = FerryCrews.NONE;
        for (int n = 0; n < s.sailings.size(); n++) {
            Sailing f = s.sailings.get(n);
            if (f.status == 0 && f.free() > 0 && (first < 0 || f.start < s.sailings.get(first).start)) {
                first = n;
            }
        }
        return first;
    }

    public int cancelledIn(int hours) {
        if (hours < 1 || hours > 1000) {
            return FerryCrews.BAD_VALUE;
        }
        State c = s.copy();
        int before = 0;
        int after = 0;
        for (Sailing f : c.sailings) {
            before += f.status == 2 ? 1 : 0;
        }
        for (int h = 0; h < hours; h++) {
            c.hour();
        }
        for (Sailing f : c.sailings) {
            after += f.status == 2 ? 1 : 0;
        }
        return after - before;
    }

    public int freshest() {
        int freshest = FerryCrews.NONE;
        for (int m = 0; m < s.members.size(); m++) {
            if (freshest < 0 || s.dutyHours(m) < s.dutyHours(freshest)) {
                freshest = m;
            }
        }
        return freshest;
    }
}
