/**
 * Crews of ferries: sailings with a set of places by role, members with certificates,
 * duties whose rests have to hold, sickness and cover, a text of sailings, undo and a snapshot.
 */
public final class FerryCrews {
    public static final int UNKNOWN = -1;
    public static final int BAD_VALUE = -2;
    public static final int FULL = -3;
    public static final int NOT_POSSIBLE = -4;
    public static final int NONE = -5;

    private static final int FERRIES = 6;
    private static final int ROLES = 4;
    private static final int MOST_SAILINGS = 48;
    private static final int MOST_MEMBERS = 12;
    private static final int MOST_STATES = 4;
    private static final int MOST_CHARACTERS = 60;
    /** A sailing in a text takes ten characters at least. */
    private static final int MOST_READ_SAILINGS = MOST_CHARACTERS / 10;

    private static final int LAST_START = 900;
    private static final int MOST_SAILING_HOURS = 12;
    private static final int MOST_PLACES_OF_A_ROLE = 3;
    private static final int HIGHEST_SET = 3333;
    private static final int LAST_CERTIFICATE_END = 9999;
    private static final int MOST_SICK_HOURS = 400;
    private static final int MOST_HOURS_TO_PASS = 200;
    private static final int LAST_HOUR = 1000;
    private static final int DAY = 24;
    private static final int WEEK = 168;
    private static final int WEEKS = 6;
    private static final int TEXT_FAULT = -100;

    private static final int OPEN = 0;
    private static final int SAILED = 1;
    private static final int CANCELLED = 2;
    /** How a sailing is for which there is room, but that did not come yet. */
    private static final int NOT_COME = 3;

    private static final int REST_OF_A_DAY = 0;
    private static final int LONG_REST = 1;
    private static final int REST_OF_A_WEEK = 2;
    private static final int HANDOVER = 3;
    private static final int HOURS_OF_A_WEEK = 4;
    private static final int SETTINGS = 5;
    private static final int[] FIRST_SETTINGS = {10, 6, 77, 1, 48};
    private static final int[] HIGHEST_SETTINGS = {20, 12, 140, 1, 100};

    private static final int CAN_TAKE = 0;
    private static final int NOT_OPEN = 1;
    private static final int ALL_TAKEN = 2;
    private static final int NOT_CERTIFIED = 3;
    private static final int IS_SICK = 4;
    private static final int HAS_A_PLACE = 5;
    private static final int TOO_LITTLE_REST = 6;

    private static final int NO_PLACE = -1;

    private final State state;
    private final State snapshot;
    /** Where something is tried out, so that the state itself stays as it is. */
    private final State trial;
    private final History history;
    private final Text text;
    private boolean hasSnapshot;

    public FerryCrews() {
        Duties duties = new Duties();
        state = new State(duties);
        snapshot = new State(duties);
        trial = new State(duties);
        history = new History(duties);
        text = new Text();
        hasSnapshot = false;
    }

    // ---- sailings

    public int sailing(int ferry, int start, int hours, int set) {
        int refusal = state.refusalOf(ferry, start, hours, set);
        if (refusal < 0) {
            return refusal;
        }
        history.record(state);
        return state.addSailing(ferry, start, hours, set);
    }

    public int sailings() {
        int textFault = text.readAll();
        if (textFault != NONE) {
            return TEXT_FAULT - textFault;
        }
        trial.copyFrom(state);
        int refusal = addReadSailings(trial);
        if (refusal < 0) {
            return refusal;
        }
        history.record(state);
        state.copyFrom(trial);
        return text.sailingsRead;
    }

    public int cancel(int sailing) {
        Sailing found = state.sailingAt(sailing);
        if (found == null) {
            return UNKNOWN;
        }
        if (!found.isOpen()) {
            return NOT_POSSIBLE;
        }
        history.record(state);
        return found.callOff();
    }

    // ---- members

    public int member(int role, int end) {
        if (!isRole(role)) {
            return UNKNOWN;
        }
        if (!isWithin(end, 0, LAST_CERTIFICATE_END)) {
            return BAD_VALUE;
        }
        if (state.memberCount >= MOST_MEMBERS) {
            return FULL;
        }
        history.record(state);
        return state.addMember(role, end);
    }

    public int certify(int member, int role, int end) {
        Member found = state.memberAt(member);
        if (found == null || !isRole(role)) {
            return UNKNOWN;
        }
        if (!isWithin(end, 0, LAST_CERTIFICATE_END)) {
            return BAD_VALUE;
        }
        if (state.needsCertificateAfter(member, role, end)) {
            return NOT_POSSIBLE;
        }
        history.record(state);
        return found.replaceCertificate(role, end);
    }

    public int climb(int member, int role) {
        Ladder steps = state.ladderOf(role);
        if (state.memberAt(member) == null || steps == null) {
            return UNKNOWN;
        }
        history.record(state);
        return steps.putLast(member);
    }

    public int leave(int member, int role) {
        Ladder steps = state.ladderOf(role);
        if (state.memberAt(member) == null || steps == null) {
            return UNKNOWN;
        }
        if (!steps.has(member)) {
            return NONE;
        }
        history.record(state);
        return steps.takeOff(member);
    }

    public int sick(int member, int hours) {
        if (state.memberAt(member) == null) {
            return UNKNOWN;
        }
        if (!isWithin(hours, 1, MOST_SICK_HOURS)) {
            return BAD_VALUE;
        }
        history.record(state);
        return state.fallSick(member, hours);
    }

    public int well(int member) {
        Member found = state.memberAt(member);
        if (found == null) {
            return UNKNOWN;
        }
        int hoursLeft = found.sickUntil - state.now;
        if (hoursLeft <= 0) {
            return NONE;
        }
        history.record(state);
        found.sickUntil = 0;
        return hoursLeft;
    }

    // ---- places

    public int give(int member, int sailing, int role) {
        Sailing found = state.sailingAt(sailing);
        if (state.memberAt(member) == null || found == null || !isRole(role)) {
            return UNKNOWN;
        }
        int reason = state.reasonAgainst(member, found, role);
        if (reason != CAN_TAKE) {
            return reason;
        }
        history.record(state);
        found.seat(member, role);
        return CAN_TAKE;
    }

    public int giveUp(int member, int sailing) {
        Sailing found = state.sailingAt(sailing);
        if (state.memberAt(member) == null || found == null) {
            return UNKNOWN;
        }
        if (!found.isOpen()) {
            return NOT_POSSIBLE;
        }
        if (!found.seats(member)) {
            return NONE;
        }
        history.record(state);
        return found.unseat(member);
    }

    public int fill(int sailing) {
        Sailing found = state.sailingAt(sailing);
        if (found == null) {
            return UNKNOWN;
        }
        if (!found.isOpen()) {
            return NOT_POSSIBLE;
        }
        if (found.freePlaces() == 0) {
            return NONE;
        }
        history.record(state);
        return state.coverAllPlaces(found);
    }

    public int pass(int hours) {
        if (!isWithin(hours, 1, MOST_HOURS_TO_PASS)) {
            return BAD_VALUE;
        }
        if (state.now + hours > LAST_HOUR) {
            return FULL;
        }
        history.record(state);
        return state.goOn(hours);
    }

    public int set(int which, int value) {
        if (!isWithin(which, 0, SETTINGS - 1) || !isWithin(value, 0, HIGHEST_SETTINGS[which])) {
            return BAD_VALUE;
        }
        int previous = state.settings[which];
        if (value == previous) {
            return NONE;
        }
        trial.copyFrom(state);
        trial.settings[which] = value;
        if (!trial.allRestsHold()) {
            return NOT_POSSIBLE;
        }
        history.record(state);
        state.settings[which] = value;
        return previous;
    }

    // ---- texts

    public int type(char character) {
        return text.append(character);
    }

    public int clearText() {
        int length = text.length;
        text.length = 0;
        return length;
    }

    public int fault() {
        return text.readAll();
    }

    // ---- history

    public int undo() {
        if (history.size == 0) {
            return NONE;
        }
        history.takeBack(state);
        return history.size;
    }

    public int keep() {
        snapshot.copyFrom(state);
        hasSnapshot = true;
        return state.now;
    }

    public int restore() {
        if (!hasSnapshot) {
            return NONE;
        }
        history.record(state);
        state.copyFrom(snapshot);
        return state.now;
    }

    // ---- what is told

    public int sailingOf(int sailing, int what) {
        Sailing found = state.sailingAt(sailing);
        if (found == null) {
            return UNKNOWN;
        }
        switch (what) {
            case 0:
                return found.status;
            case 1:
                return found.ferry;
            case 2:
                return found.start;
            case 3:
                return found.end;
            case 4:
                return found.set;
            case 5:
                return found.allPlaces();
            case 6:
                return found.freePlaces();
            default:
                return BAD_VALUE;
        }
    }

    public int crew(int sailing, int rank, int what) {
        Sailing found = state.sailingAt(sailing);
        if (found == null) {
            return UNKNOWN;
        }
        if (rank < 0 || !isWithin(what, 0, 2)) {
            return BAD_VALUE;
        }
        int member = found.memberOfRank(rank);
        if (member == NONE || what == 0) {
            return member;
        }
        if (what == 1) {
            return found.roleOf(member);
        }
        return state.dutiesOf(member, null).beginOf(found);
    }

    public int memberOf(int member, int what) {
        Member found = state.memberAt(member);
        if (found == null) {
            return UNKNOWN;
        }
        if (isRole(what)) {
            return found.certificateOf(what);
        }
        switch (what) {
            case 4:
                return found.sickUntil > state.now ? found.sickUntil : NONE;
            case 5:
                return state.placesOf(member, OPEN);
            case 6:
                return state.placesOf(member, SAILED);
            case 7:
                return state.dutiesOf(member, null).hours;
            case 8:
                return found.covers;
            case 9:
                return state.nextSailingOf(member);
            default:
                return BAD_VALUE;
        }
    }

    public int ladder(int role, int rank) {
        Ladder steps = state.ladderOf(role);
        if (steps == null) {
            return UNKNOWN;
        }
        return rank < 0 ? BAD_VALUE : steps.memberOfRank(rank);
    }

    public int rest(int member, int from, int hours) {
        if (state.memberAt(member) == null) {
            return UNKNOWN;
        }
        if (!isWithin(from, 0, LAST_HOUR) || !isWithin(hours, 1, WEEK)) {
            return BAD_VALUE;
        }
        return state.dutiesOf(member, null).restIn(from, hours);
    }

    public int leastRest(int member, int what) {
        if (state.memberAt(member) == null) {
            return UNKNOWN;
        }
        if (!isWithin(what, 0, 2)) {
            return BAD_VALUE;
        }
        Duties duties = state.dutiesOf(member, null);
        if (what == 2) {
            return duties.leastLongRest();
        }
        int first = duties.firstHourOfLeastRest();
        return what == 1 ? first : duties.restIn(first, DAY);
    }

    public int overtime(int member, int week) {
        if (state.memberAt(member) == null || !isWithin(week, 0, WEEKS - 1)) {
            return UNKNOWN;
        }
        return state.hoursBeyond(state.dutiesOf(member, null), week);
    }

    public int count(int what) {
        if (isWithin(what, 13, 17)) {
            return state.settings[what - 13];
        }
        switch (what) {
            case 0:
                return state.now;
            case 1:
                return state.sailingCount;
            case 2:
                return state.sailingsThatAre(OPEN);
            case 3:
                return state.sailingsThatAre(SAILED);
            case 4:
                return state.sailingsThatAre(CANCELLED);
            case 5:
                return state.memberCount;
            case 6:
                return state.membersSickNow();
            case 7:
                return state.freeOpenPlaces();
            case 8:
                return state.takenOpenPlaces();
            case 9:
                return state.allCovers();
            case 10:
                return state.allHoursBeyond();
            case 11:
                return history.size;
            case 12:
                return text.length;
            default:
                return BAD_VALUE;
        }
    }

    // ---- what would be

    public int why(int member, int sailing, int role) {
        Sailing found = state.sailingAt(sailing);
        if (state.memberAt(member) == null || found == null || !isRole(role)) {
            return UNKNOWN;
        }
        return state.reasonAgainst(member, found, role);
    }

    public int able(int sailing, int role) {
        Sailing found = state.sailingAt(sailing);
        if (found == null || !isRole(role)) {
            return UNKNOWN;
        }
        int members = 0;
        for (int member = 0; member < state.memberCount; member++) {
            if (state.reasonAgainst(member, found, role) == CAN_TAKE) {
                members |= 1 << member;
            }
        }
        return members;
    }

    public int ifSick(int member, int hours) {
        if (state.memberAt(member) == null) {
            return UNKNOWN;
        }
        if (!isWithin(hours, 1, MOST_SICK_HOURS)) {
            return BAD_VALUE;
        }
        trial.copyFrom(state);
        return trial.fallSick(member, hours);
    }

    public int weakest(int hours) {
        if (!isWithin(hours, 1, MOST_SICK_HOURS)) {
            return BAD_VALUE;
        }
        int weakest = NONE;
        int mostFree = -1;
        for (int member = 0; member < state.memberCount; member++) {
            trial.copyFrom(state);
            int free = trial.fallSick(member, hours);
            if (free > mostFree) {
                mostFree = free;
                weakest = member;
            }
        }
        return weakest;
    }

    public int atRisk() {
        return state.firstSailingWithFreePlace();
    }

    public int cancelledIn(int hours) {
        if (!isWithin(hours, 1, LAST_HOUR)) {
            return BAD_VALUE;
        }
        return state.sailingsToBeCancelledBefore(state.now + hours);
    }

    public int freshest() {
        int freshest = NONE;
        int fewest = 0;
        for (int member = 0; member < state.memberCount; member++) {
            int hours = state.dutiesOf(member, null).hours;
            if (freshest == NONE || hours < fewest) {
                fewest = hours;
                freshest = member;
            }
        }
        return freshest;
    }

    private int addReadSailings(State target) {
        for (int rank = 0; rank < text.sailingsRead && rank < MOST_READ_SAILINGS; rank++) {
            int ferry = text.ferries[rank];
            int start = text.starts[rank];
            int hours = text.hours[rank];
            int set = text.sets[rank];
            int refusal = target.refusalOf(ferry, start, hours, set);
            if (refusal < 0) {
                return refusal;
            }
            target.addSailing(ferry, start, hours, set);
        }
        return 0;
    }

    private static boolean isWithin(int value, int least, int most) {
        return value >= least && value <= most;
    }

    private static boolean isRole(int role) {
        return role >= 0 && role < ROLES;
    }

    private static boolean isMemberNumber(int member) {
        return member >= 0 && member < MOST_MEMBERS;
    }

    private static boolean isSet(int set) {
        if (!isWithin(set, 1, HIGHEST_SET)) {
            return false;
        }
        int digits = set;
        for (int role = 0; role < ROLES; role++) {
            if (digits % 10 > MOST_PLACES_OF_A_ROLE) {
                return false;
            }
            digits /= 10;
        }
        return true;
    }

    private static final class Sailing {
        int number;
        int ferry;
        int start;
        int end;
        int set;
        int status = NOT_COME;
        /** Of the place that a member who falls sick gives up, until it is covered. */
        int roleGivenUp = NO_PLACE;
        private final int[] places = new int[ROLES];
        private final int[] roles = new int[MOST_MEMBERS];

        Sailing() {
            unseatAll();
        }

        void come(int itsNumber, int itsFerry, int itsStart, int hours, int itsSet) {
            number = itsNumber;
            ferry = itsFerry;
            start = itsStart;
            end = itsStart + hours;
            set = itsSet;
            status = OPEN;
            int digits = itsSet;
            for (int role = ROLES - 1; role >= 0; role--) {
                places[role] = digits % 10;
                digits /= 10;
            }
        }

        void copyFrom(Sailing other) {
            number = other.number;
            ferry = other.ferry;
            start = other.start;
            end = other.end;
            set = other.set;
            status = other.status;
            System.arraycopy(other.places, 0, places, 0, ROLES);
            System.arraycopy(other.roles, 0, roles, 0, MOST_MEMBERS);
        }

        boolean hasCome() {
            return status != NOT_COME;
        }

        boolean isOpen() {
            return status == OPEN;
        }

        boolean occupies(int someFerry, int from, int to) {
            boolean sails = status == OPEN || status == SAILED;
            return sails && ferry == someFerry && start < to && from < end;
        }

        boolean seats(int member) {
            return roleOf(member) != NO_PLACE;
        }

        int roleOf(int member) {
            return isMemberNumber(member) ? roles[member] : NO_PLACE;
        }

        void seat(int member, int role) {
            if (isMemberNumber(member)) {
                roles[member] = role;
            }
        }

        int unseat(int member) {
            int role = roleOf(member);
            seat(member, NO_PLACE);
            return role;
        }

        private void unseatAll() {
            for (int member = 0; member < MOST_MEMBERS; member++) {
                roles[member] = NO_PLACE;
            }
        }

        int callOff() {
            int seated = takenPlaces();
            status = CANCELLED;
            unseatAll();
            return seated;
        }

        void depart() {
            if (freePlaces() == 0) {
                status = SAILED;
            } else {
                callOff();
            }
        }

        int freePlacesOf(int role) {
            if (!isRole(role)) {
                return 0;
            }
            int free = places[role];
            for (int member = 0; member < MOST_MEMBERS; member++) {
                if (roles[member] == role) {
                    free--;
                }
            }
            return free;
        }

        int allPlaces() {
            int all = 0;
            for (int role = 0; role < ROLES; role++) {
                all += places[role];
            }
            return all;
        }

        int takenPlaces() {
            int taken = 0;
            for (int member = 0; member < MOST_MEMBERS; member++) {
                if (roles[member] != NO_PLACE) {
                    taken++;
                }
            }
            return taken;
        }

        int freePlaces() {
            return allPlaces() - takenPlaces();
        }

        int memberOfRank(int rank) {
            int before = 0;
            for (int role = 0; role < ROLES; role++) {
                for (int member = 0; member < MOST_MEMBERS; member++) {
                    if (roles[member] == role) {
                        if (before == rank) {
                            return member;
                        }
                        before++;
                    }
                }
            }
            return NONE;
        }
    }

    private static final class Member {
        /** 0 is no certificate: a certificate that ends at 0 is good for no sailing either. */
        private final int[] certificates = new int[ROLES];
        int sickUntil;
        int covers;

        void copyFrom(Member other) {
            System.arraycopy(other.certificates, 0, certificates, 0, ROLES);
            sickUntil = other.sickUntil;
            covers = other.covers;
        }

        int certificateOf(int role) {
            return isRole(role) ? certificates[role] : 0;
        }

        int replaceCertificate(int role, int end) {
            int previous = certificateOf(role);
            if (isRole(role)) {
                certificates[role] = end;
            }
            return previous;
        }
    }

    private static final class Ladder {
        private final int[] members = new int[MOST_MEMBERS];
        int size;

        void copyFrom(Ladder other) {
            System.arraycopy(other.members, 0, members, 0, MOST_MEMBERS);
            size = other.size;
        }

        int memberOfRank(int rank) {
            return rank >= 0 && rank < size && rank < MOST_MEMBERS ? members[rank] : NONE;
        }

        boolean has(int member) {
            for (int rank = 0; rank < size; rank++) {
                if (memberOfRank(rank) == member) {
                    return true;
                }
            }
            return false;
        }

        int takeOff(int member) {
            boolean found = false;
            for (int rank = 0; rank < size && rank < MOST_MEMBERS; rank++) {
                if (found && rank > 0) {
                    members[rank - 1] = members[rank];
                } else if (members[rank] == member) {
                    found = true;
                }
            }
            if (found) {
                size--;
            }
            return size;
        }

        int putLast(int member) {
            takeOff(member);
            if (isWithin(size, 0, MOST_MEMBERS - 1)) {
                members[size] = member;
                size++;
            }
            return size;
        }
    }

    /** The duties of one member, hour by hour; one object is used for every member in turn. */
    private static final class Duties {
        private static final int HOURS = LAST_HOUR + WEEK;
        private static final int FREE = 0;
        private static final int HANDING_OVER = FERRIES + 1;

        /** FREE, HANDING_OVER, or 1 more than the ferry on which the member sails in that hour. */
        private final int[] marks = new int[HOURS];
        int hours;
        int end;
        boolean collide;

        void clear() {
            for (int hour = 0; hour < end && hour < HOURS; hour++) {
                marks[hour] = FREE;
            }
            hours = 0;
            end = 0;
            collide = false;
        }

        void addSailing(Sailing sailing) {
            for (int hour = sailing.start; hour < sailing.end; hour++) {
                mark(hour, sailing.ferry + 1);
            }
        }

        /**
         * To be called when the hours of all sailings stand: as no ferry sails twice at a time,
         * the same ferry in the hour before tells of a sailing that ends at this start.
         */
        void addHandover(Sailing sailing) {
            int hour = sailing.start - 1;
            if (hour >= 0 && hour < HOURS && marks[hour] != sailing.ferry + 1) {
                mark(hour, HANDING_OVER);
            }
        }

        private void mark(int hour, int sign) {
            if (hour < 0 || hour >= HOURS) {
                return;
            }
            if (marks[hour] != FREE) {
                collide = true;
            }
            marks[hour] = sign;
            hours++;
            if (hour >= end) {
                end = hour + 1;
            }
        }

        int beginOf(Sailing sailing) {
            int hour = sailing.start - 1;
            boolean earlier = hour >= 0 && hour < HOURS && marks[hour] == HANDING_OVER;
            return earlier ? hour : sailing.start;
        }

        private int restAt(int hour) {
            return hour < 0 || hour >= HOURS || marks[hour] == FREE ? 1 : 0;
        }

        int restIn(int from, int length) {
            int rest = length;
            for (int hour = from; hour < from + length; hour++) {
                if (hour >= 0 && hour < HOURS && marks[hour] != FREE) {
                    rest--;
                }
            }
            return rest;
        }

        /** Looks at the rows that start from the hour `from` on and ahead of the hour `to`. */
        boolean everyRowHas(int least, int length, int from, int to) {
            int rest = restIn(from, length);
            for (int first = from; first < to; first++) {
                if (rest < least) {
                    return false;
                }
                rest += restAt(first + length) - restAt(first);
            }
            return true;
        }

        /** Looks at the rows of a day that start from the hour `from` on and ahead of the hour `to`. */
        boolean everyDayHasLongRest(int length, int from, int to) {
            int run = 0;
            int latest = -1;
            for (int last = from; last < to + DAY - 1; last++) {
                run = restAt(last) == 1 ? run + 1 : 0;
                if (run >= length) {
                    latest = last - length + 1;
                }
                int first = last - DAY + 1;
                if (first >= from && latest < first) {
                    return false;
                }
            }
            return true;
        }

        int leastLongRest() {
            int least = DAY;
            while (least > 0 && !everyDayHasLongRest(least, 0, end)) {
                least--;
            }
            return least;
        }

        int firstHourOfLeastRest() {
            int rest = restIn(0, DAY);
            int least = rest;
            int firstOfLeast = 0;
            for (int first = 0; first < end; first++) {
                if (rest < least) {
                    least = rest;
                    firstOfLeast = first;
                }
                rest += restAt(first + DAY) - restAt(first);
            }
            return firstOfLeast;
        }
    }

    /** What the history and the snapshot keep: all but the text. */
    private static final class State {
        private final Duties duties;
        final int[] settings = new int[SETTINGS];
        int now;
        int sailingCount;
        int memberCount;
        /** By start, of several by number, as places are covered; behind them those that did not come yet. */
        private final Sailing[] byStart = new Sailing[MOST_SAILINGS];
        private final Member[] members = new Member[MOST_MEMBERS];
        private final Ladder[] ladders = new Ladder[ROLES];

        State(Duties sharedDuties) {
            duties = sharedDuties;
            now = 0;
            sailingCount = 0;
            memberCount = 0;
            for (int which = 0; which < SETTINGS; which++) {
                settings[which] = FIRST_SETTINGS[which];
            }
            for (int rank = 0; rank < MOST_SAILINGS; rank++) {
                byStart[rank] = new Sailing();
            }
            for (int member = 0; member < MOST_MEMBERS; member++) {
                members[member] = new Member();
            }
            for (int role = 0; role < ROLES; role++) {
                ladders[role] = new Ladder();
            }
        }

        void copyFrom(State other) {
            now = other.now;
            sailingCount = other.sailingCount;
            memberCount = other.memberCount;
            System.arraycopy(other.settings, 0, settings, 0, SETTINGS);
            for (int rank = 0; rank < MOST_SAILINGS; rank++) {
                byStart[rank].copyFrom(other.byStart[rank]);
            }
            for (int member = 0; member < MOST_MEMBERS; member++) {
                members[member].copyFrom(other.members[member]);
            }
            for (int role = 0; role < ROLES; role++) {
                ladders[role].copyFrom(other.ladders[role]);
            }
        }

        Sailing sailingAt(int number) {
            for (Sailing sailing : byStart) {
                if (sailing.hasCome() && sailing.number == number) {
                    return sailing;
                }
            }
            return null;
        }

        Member memberAt(int number) {
            return isMemberNumber(number) && number < memberCount ? members[number] : null;
        }

        Ladder ladderOf(int role) {
            return isRole(role) ? ladders[role] : null;
        }

        int refusalOf(int ferry, int start, int hours, int set) {
            if (!isWithin(ferry, 0, FERRIES - 1)) {
                return UNKNOWN;
            }
            if (!isWithin(start, now, LAST_START) || !isWithin(hours, 1, MOST_SAILING_HOURS) || !isSet(set)) {
                return BAD_VALUE;
            }
            for (Sailing sailing : byStart) {
                if (sailing.occupies(ferry, start, start + hours)) {
                    return NOT_POSSIBLE;
                }
            }
            return sailingCount >= MOST_SAILINGS ? FULL : 0;
        }

        int addSailing(int ferry, int start, int hours, int set) {
            int number = sailingCount;
            if (number < 0 || number >= MOST_SAILINGS) {
                return FULL;
            }
            Sailing added = byStart[number];
            added.come(number, ferry, start, hours, set);
            int rank = number;
            while (rank > 0 && byStart[rank - 1].start > start) {
                byStart[rank] = byStart[rank - 1];
                rank--;
            }
            byStart[rank] = added;
            sailingCount++;
            return number;
        }

        int addMember(int role, int end) {
            int number = memberCount;
            if (!isMemberNumber(number) || !isRole(role)) {
                return FULL;
            }
            memberCount++;
            members[number].replaceCertificate(role, end);
            ladders[role].putLast(number);
            return number;
        }

        boolean needsCertificateAfter(int member, int role, int end) {
            for (Sailing sailing : byStart) {
                if (sailing.isOpen() && sailing.end > end && sailing.roleOf(member) == role) {
                    return true;
                }
            }
            return false;
        }

        /** The duties that a member has, or would have with a place on one more sailing (null for none). */
        Duties dutiesOf(int member, Sailing more) {
            duties.clear();
            for (Sailing sailing : byStart) {
                if (sailing == more || sailing.seats(member)) {
                    duties.addSailing(sailing);
                }
            }
            if (settings[HANDOVER] == 1) {
                for (Sailing sailing : byStart) {
                    if (sailing == more || sailing.seats(member)) {
                        duties.addHandover(sailing);
                    }
                }
            }
            return duties;
        }

        /** Whether rests hold in all rows that have one of the hours from `from` on and ahead of `to`. */
        private boolean restsHold(Duties held, int from, int to) {
            int firstDay = Math.max(0, from - DAY + 1);
            int firstWeek = Math.max(0, from - WEEK + 1);
            return !held.collide
                    && held.everyRowHas(settings[REST_OF_A_DAY], DAY, firstDay, to)
                    && held.everyDayHasLongRest(settings[LONG_REST], firstDay, to)
                    && held.everyRowHas(settings[REST_OF_A_WEEK], WEEK, firstWeek, to);
        }

        boolean allRestsHold() {
            for (int member = 0; member < memberCount; member++) {
                Duties held = dutiesOf(member, null);
                if (!restsHold(held, 0, held.end)) {
                    return false;
                }
            }
            return true;
        }

        int reasonAgainst(int number, Sailing sailing, int role) {
            Member member = memberAt(number);
            if (member == null || !sailing.isOpen() || sailing.start < now) {
                return NOT_OPEN;
            }
            if (sailing.freePlacesOf(role) <= 0) {
                return ALL_TAKEN;
            }
            if (member.certificateOf(role) < sailing.end) {
                return NOT_CERTIFIED;
            }
            if (sailing.start < member.sickUntil) {
                return IS_SICK;
            }
            if (sailing.seats(number)) {
                return HAS_A_PLACE;
            }
            // Rests held before, so only rows with an hour of the new duty can have got worse.
            Duties held = dutiesOf(number, sailing);
            return restsHold(held, sailing.start - 1, sailing.end) ? CAN_TAKE : TOO_LITTLE_REST;
        }

        private boolean coverPlace(Sailing sailing, int role) {
            Ladder steps = ladderOf(role);
            if (steps == null) {
                return false;
            }
            for (int rank = 0; rank < steps.size; rank++) {
                int number = steps.memberOfRank(rank);
                Member member = memberAt(number);
                if (member != null && reasonAgainst(number, sailing, role) == CAN_TAKE) {
                    sailing.seat(number, role);
                    member.covers++;
                    return true;
                }
            }
            return false;
        }

        int coverAllPlaces(Sailing sailing) {
            for (int role = 0; role < ROLES; role++) {
                for (int free = sailing.freePlacesOf(role); free > 0; free--) {
                    coverPlace(sailing, role);
                }
            }
            return sailing.freePlaces();
        }

        int fallSick(int number, int hours) {
            Member member = memberAt(number);
            if (member == null) {
                return UNKNOWN;
            }
            member.sickUntil = now + hours;
            for (Sailing sailing : byStart) {
                boolean misses = sailing.isOpen() && sailing.start < member.sickUntil;
                sailing.roleGivenUp = misses ? sailing.unseat(number) : NO_PLACE;
            }
            int stayFree = 0;
            for (Sailing sailing : byStart) {
                if (sailing.roleGivenUp != NO_PLACE && !coverPlace(sailing, sailing.roleGivenUp)) {
                    stayFree++;
                }
            }
            return stayFree;
        }

        /** All hours in one go: what becomes of a sailing depends on no other. */
        int goOn(int hours) {
            now += hours;
            for (Sailing sailing : byStart) {
                if (sailing.isOpen() && sailing.start < now) {
                    sailing.depart();
                }
            }
            return now;
        }

        int placesOf(int member, int status) {
            int places = 0;
            for (Sailing sailing : byStart) {
                if (sailing.status == status && sailing.seats(member)) {
                    places++;
                }
            }
            return places;
        }

        int nextSailingOf(int member) {
            for (Sailing sailing : byStart) {
                if (sailing.isOpen() && sailing.seats(member)) {
                    return sailing.number;
                }
            }
            return NONE;
        }

        int firstSailingWithFreePlace() {
            for (Sailing sailing : byStart) {
                if (sailing.isOpen() && sailing.freePlaces() > 0) {
                    return sailing.number;
                }
            }
            return NONE;
        }

        int sailingsToBeCancelledBefore(int hour) {
            int cancelled = 0;
            for (Sailing sailing : byStart) {
                if (sailing.isOpen() && sailing.start < hour && sailing.freePlaces() > 0) {
                    cancelled++;
                }
            }
            return cancelled;
        }

        int sailingsThatAre(int status) {
            int found = 0;
            for (Sailing sailing : byStart) {
                if (sailing.status == status) {
                    found++;
                }
            }
            return found;
        }

        int freeOpenPlaces() {
            int free = 0;
            for (Sailing sailing : byStart) {
                if (sailing.isOpen()) {
                    free += sailing.freePlaces();
                }
            }
            return free;
        }

        int takenOpenPlaces() {
            int taken = 0;
            for (Sailing sailing : byStart) {
                if (sailing.isOpen()) {
                    taken += sailing.takenPlaces();
                }
            }
            return taken;
        }

        int membersSickNow() {
            int sickNow = 0;
            for (Member member : members) {
                if (member.sickUntil > now) {
                    sickNow++;
                }
            }
            return sickNow;
        }

        int allCovers() {
            int covers = 0;
            for (Member member : members) {
                covers += member.covers;
            }
            return covers;
        }

        int hoursBeyond(Duties held, int week) {
            int worked = WEEK - held.restIn(week * WEEK, WEEK);
            return Math.max(0, worked - settings[HOURS_OF_A_WEEK]);
        }

        int allHoursBeyond() {
            int beyond = 0;
            for (int member = 0; member < memberCount; member++) {
                Duties held = dutiesOf(member, null);
                for (int week = 0; week < WEEKS; week++) {
                    beyond += hoursBeyond(held, week);
                }
            }
            return beyond;
        }
    }

    private static final class History {
        private final State[] states = new State[MOST_STATES];
        int size;

        History(Duties sharedDuties) {
            for (int age = 0; age < MOST_STATES; age++) {
                states[age] = new State(sharedDuties);
            }
            size = 0;
        }

        void record(State state) {
            if (size >= MOST_STATES) {
                dropOldest();
            }
            if (isWithin(size, 0, MOST_STATES - 1)) {
                states[size].copyFrom(state);
                size++;
            }
        }

        /** The dropped state's object goes to the end, to be used again. */
        private void dropOldest() {
            State oldest = states[0];
            for (int age = 1; age < MOST_STATES; age++) {
                states[age - 1] = states[age];
            }
            states[MOST_STATES - 1] = oldest;
            size = MOST_STATES - 1;
        }

        void takeBack(State state) {
            if (size > 0 && size <= MOST_STATES) {
                size--;
                state.copyFrom(states[size]);
            }
        }
    }

    /** The text of sailings, and what was read in it last. */
    private static final class Text {
        private static final int NOT_READ = -1;

        private final char[] characters = new char[MOST_CHARACTERS];
        int length;
        private int at;
        int sailingsRead;
        final int[] ferries = new int[MOST_READ_SAILINGS];
        final int[] starts = new int[MOST_READ_SAILINGS];
        final int[] hours = new int[MOST_READ_SAILINGS];
        final int[] sets = new int[MOST_READ_SAILINGS];

        int append(char character) {
            if (!isWithin(length, 0, MOST_CHARACTERS - 1)) {
                return FULL;
            }
            characters[length] = character;
            length++;
            return length;
        }

        /** Returns the fault of the text, NONE if it has none. */
        int readAll() {
            at = 0;
            sailingsRead = 0;
            for (int turn = 0; turn < MOST_READ_SAILINGS; turn++) {
                if (!readSailing()) {
                    return at;
                }
                if (at == length) {
                    return NONE;
                }
                if (!accept(';')) {
                    return at;
                }
            }
            return at;
        }

        private boolean readSailing() {
            int ferry = readNumber(0, FERRIES - 1);
            if (ferry == NOT_READ || !accept(':')) {
                return false;
            }
            int start = readNumber(0, LAST_START);
            if (start == NOT_READ || !accept('+')) {
                return false;
            }
            int lasting = readNumber(1, MOST_SAILING_HOURS);
            if (lasting == NOT_READ || !accept('=')) {
                return false;
            }
            int set = readSet();
            if (set == NOT_READ || !isWithin(sailingsRead, 0, MOST_READ_SAILINGS - 1)) {
                return false;
            }
            ferries[sailingsRead] = ferry;
            starts[sailingsRead] = start;
            hours[sailingsRead] = lasting;
            sets[sailingsRead] = set;
            sailingsRead++;
            return true;
        }

        private boolean accept(char sign) {
            if (at < 0 || at >= length || at >= MOST_CHARACTERS || characters[at] != sign) {
                return false;
            }
            at++;
            return true;
        }

        /** The next character as a digit, NOT_READ if it is none. */
        private int nextDigit() {
            if (at < 0 || at >= length || at >= MOST_CHARACTERS) {
                return NOT_READ;
            }
            int digit = characters[at] - '0';
            return isWithin(digit, 0, 9) ? digit : NOT_READ;
        }

        /** Stops at the digit by which the number would be too great, or would have a zero in front. */
        private int readNumber(int least, int most) {
            int value = nextDigit();
            if (value == NOT_READ || !isWithin(value, least, most)) {
                return NOT_READ;
            }
            at++;
            while (at < length) {
                int digit = nextDigit();
                if (digit == NOT_READ || value == 0 || value * 10 + digit > most) {
                    return value;
                }
                value = value * 10 + digit;
                at++;
            }
            return value;
        }

        private int readSet() {
            int value = 0;
            for (int role = 0; role < ROLES; role++) {
                int digit = nextDigit();
                if (!isWithin(digit, 0, MOST_PLACES_OF_A_ROLE)) {
                    return NOT_READ;
                }
                value = value * 10 + digit;
                at++;
            }
            return value;
        }
    }
}
