import java.util.ArrayList;

/** A gate to machines; the numbered promises of its document say what each call does. */
public final class AccessGate {
    public static final int PLAIN = 0, RISKY = 1, FORBIDDEN = 2;
    public static final int WAITING = 0, APPROVED = 1, DENIED = 2, LAPSED = 3;

    private static final int MAX_PEOPLE = 12;
    private static final int MAX_MACHINES = 8;
    private static final int TEAMS = 4;
    private static final int LABELS = 4;
    private static final int MAX_ASK_MINUTES = 600;
    private static final int MAX_PASS_MINUTES = 3000;
    private static final int MAX_TIME = 100000;

    private static final int LAPSE_MINUTES = 60;
    private static final int ENTRY_MINUTES = 30;
    private static final int OVERDUE_MINUTES = 1440;
    private static final int REST_MINUTES = 15;

    // An object is used for at most so many calls, and a call makes at most one row of a kind.
    private static final int MAX_ROWS = 512;
    // Each call makes at most one step of its own, and each session one more when it is closed.
    private static final int MAX_STEPS = 2 * MAX_ROWS;

    private static final int STEP_ASK = 0;
    private static final int STEP_APPROVAL = 1;
    private static final int STEP_DENIAL = 2;
    private static final int STEP_ENTRY = 3;
    private static final int STEP_LOOK = 4;
    private static final int STEP_OPENED = 5;
    private static final int STEP_CLOSED = 6;
    private static final int STEP_LINE = 7;
    private static final int STEP_LET_THROUGH = 8;

    // Times are never negative, so this stands for a line that is not held.
    private static final int NEVER = -1;

    private final ArrayList<Person> people = new ArrayList<Person>();
    private final ArrayList<Machine> machines = new ArrayList<Machine>();
    private final ArrayList<Ask> asks = new ArrayList<Ask>();
    private final ArrayList<Entry> entries = new ArrayList<Entry>();
    private final ArrayList<Right> rights = new ArrayList<Right>();
    private final ArrayList<Session> sessions = new ArrayList<Session>();
    private final StepRecord record = new StepRecord();
    private int openCount = 0;
    private int now = 0;

    public AccessGate() {
    }

    // ---- people and machines

    public int addPerson(int team) throws IllegalArgumentException, IllegalStateException {
        if (team < 0 || team >= TEAMS) {
            throw new IllegalArgumentException("team is out of range");
        }
        int number = people.size();
        if (number >= MAX_PEOPLE) {
            throw new IllegalStateException("there are 12 people");
        }
        people.add(new Person(number, team));
        return number;
    }

    public int addMachine(int label) throws IllegalArgumentException, IllegalStateException {
        requireLabel(label);
        int number = machines.size();
        if (number >= MAX_MACHINES) {
            throw new IllegalStateException("there are 8 machines");
        }
        machines.add(new Machine(number, label));
        return number;
    }

    public int setLabel(int person, int label, boolean has)
            throws IndexOutOfBoundsException, IllegalArgumentException {
        Person who = personAt(person);
        requireLabel(label);
        who.keepLabel(label, has);
        if (has) {
            return 0;
        }
        for (int i = 0; i < machines.size(); i++) {
            Machine where = machines.get(i);
            if (where.label == label) {
                endRights(who, where);
                denyWaitingAsks(who, where);
            }
        }
        return closeEndedSessions();
    }

    public int takeAway(int person, int machine) throws IndexOutOfBoundsException {
        Person who = personAt(person);
        Machine where = machineAt(machine);
        endRights(who, where);
        denyWaitingAsks(who, where);
        return closeEndedSessions();
    }

    // ---- asks and entries

    public int ask(int person, int machine, int minutes)
            throws IndexOutOfBoundsException, IllegalArgumentException, IllegalStateException {
        Person who = personAt(person);
        Machine where = machineAt(machine);
        if (minutes < 1 || minutes > MAX_ASK_MINUTES) {
            throw new IllegalArgumentException("minutes is out of range");
        }
        requireMayAskOrEnter(who, where);
        int number = asks.size();
        requireRoomFor(number);
        asks.add(new Ask(who, where, minutes, now));
        record.add(STEP_ASK, who, where, now);
        return number;
    }

    public boolean approve(int ask, int by) throws IndexOutOfBoundsException, IllegalStateException {
        Ask asked = askAt(ask);
        Person approver = personAt(by);
        requireMayJudge(asked, approver);
        if (asked.firstApprover == approver) {
            throw new IllegalStateException("the person has approved it");
        }
        record.add(STEP_APPROVAL, approver, asked.where, now);
        if (asked.firstApprover == null) {
            asked.firstApprover = approver;
            return false;
        }
        asked.settled = APPROVED;
        rights.add(new Right(asked.who, asked.where, now, now + asked.minutes));
        return true;
    }

    public void deny(int ask, int by) throws IndexOutOfBoundsException, IllegalStateException {
        Ask asked = askAt(ask);
        Person denier = personAt(by);
        requireMayJudge(asked, denier);
        asked.settled = DENIED;
        record.add(STEP_DENIAL, denier, asked.where, now);
    }

    public int askState(int ask) throws IndexOutOfBoundsException {
        return askAt(ask).stateAt(now);
    }

    public int enter(int person, int machine) throws IndexOutOfBoundsException, IllegalStateException {
        Person who = personAt(person);
        Machine where = machineAt(machine);
        requireMayAskOrEnter(who, where);
        int number = entries.size();
        requireRoomFor(number);
        entries.add(new Entry(who, where, now));
        rights.add(new Right(who, where, now, now + ENTRY_MINUTES));
        record.add(STEP_ENTRY, who, where, now);
        return number;
    }

    public int lookAt(int entry, int by) throws IndexOutOfBoundsException, IllegalStateException {
        Entry entered = entryAt(entry);
        Person looker = personAt(by);
        if (entered.lookedAt) {
            throw new IllegalStateException("somebody has looked at the entry");
        }
        if (looker.team == entered.who.team) {
            throw new IllegalStateException("the person is of the team of the one who entered");
        }
        entered.lookedAt = true;
        record.add(STEP_LOOK, looker, entered.where, now);
        return now - entered.time;
    }

    public int overdue(int person) throws IndexOutOfBoundsException {
        return countOverdue(personAt(person));
    }

    public boolean couldEnter(int person, int machine, int time)
            throws IndexOutOfBoundsException, IllegalArgumentException {
        Person who = personAt(person);
        Machine where = machineAt(machine);
        if (time < 0 || time > MAX_TIME) {
            throw new IllegalArgumentException("time is out of range");
        }
        return rightHolds(who, where, time);
    }

    // ---- sessions

    public int open(int person, int machine) throws IndexOutOfBoundsException, IllegalStateException {
        Person who = personAt(person);
        Machine where = machineAt(machine);
        if (!rightHolds(who, where, now)) {
            throw new IllegalStateException("no right of the person for the machine holds");
        }
        int number = sessions.size();
        requireRoomFor(number);
        sessions.add(new Session(who, where, now));
        openCount++;
        record.add(STEP_OPENED, who, where, now);
        return number;
    }

    public boolean type(int session, int kind)
            throws IndexOutOfBoundsException, IllegalArgumentException, IllegalStateException {
        Session typed = sessionAt(session);
        if (kind < PLAIN || kind > FORBIDDEN) {
            throw new IllegalArgumentException("kind is out of range");
        }
        requireOpen(typed);
        if (typed.holdsLine()) {
            throw new IllegalStateException("the session holds a line");
        }
        record.add(STEP_LINE, typed.who, typed.where, now);
        typed.lastLine = now;
        if (kind == PLAIN) {
            typed.linesLetThrough++;
            return true;
        }
        if (kind == RISKY) {
            typed.heldSince = now;
            return false;
        }
        // The session closes as all others that lean on these rights do, by rising numbers.
        endRights(typed.who, typed.where);
        closeEndedSessions();
        return false;
    }

    public int letThrough(int session, int by) throws IndexOutOfBoundsException, IllegalStateException {
        Session held = sessionAt(session);
        Person judge = personAt(by);
        requireOpen(held);
        if (!held.holdsLine()) {
            throw new IllegalStateException("the session holds no line");
        }
        if (!judge.mayJudge(held.who, held.where)) {
            throw new IllegalStateException("the person cannot let the line through");
        }
        int minutes = now - held.heldSince;
        held.heldSince = NEVER;
        held.linesLetThrough++;
        record.add(STEP_LET_THROUGH, judge, held.where, now);
        return minutes;
    }

    public int close(int session) throws IndexOutOfBoundsException, IllegalStateException {
        Session closing = sessionAt(session);
        requireOpen(closing);
        endSession(closing);
        return closing.linesLetThrough;
    }

    public boolean isOpen(int session) throws IndexOutOfBoundsException {
        return !sessionAt(session).closed;
    }

    public int openSessions() {
        return openCount;
    }

    public int pass(int minutes) throws IllegalArgumentException, IllegalStateException {
        if (minutes < 1 || minutes > MAX_PASS_MINUTES) {
            throw new IllegalArgumentException("minutes is out of range");
        }
        int end = now + minutes;
        if (end > MAX_TIME) {
            throw new IllegalStateException("the clock would be above 100000");
        }
        int closed = 0;
        // Only an open session makes the single minutes matter: a step tells its minute.
        for (int i = 0; i < minutes && openCount > 0; i++) {
            now++;
            closed += closeEndedSessions();
        }
        now = end;
        return closed;
    }

    public int clock() {
        return now;
    }

    // ---- record

    public int steps() {
        return record.count;
    }

    public int kind(int step) throws IndexOutOfBoundsException {
        requireStep(step);
        return record.kinds[step];
    }

    public int seal(int step) throws IndexOutOfBoundsException {
        requireStep(step);
        return record.seals[step];
    }

    // ---- what the calls share

    private Person personAt(int number) {
        if (number < 0 || number >= people.size()) {
            throw new IndexOutOfBoundsException("no such person");
        }
        return people.get(number);
    }

    private Machine machineAt(int number) {
        if (number < 0 || number >= machines.size()) {
            throw new IndexOutOfBoundsException("no such machine");
        }
        return machines.get(number);
    }

    private Ask askAt(int number) {
        if (number < 0 || number >= asks.size()) {
            throw new IndexOutOfBoundsException("no such ask");
        }
        return asks.get(number);
    }

    private Entry entryAt(int number) {
        if (number < 0 || number >= entries.size()) {
            throw new IndexOutOfBoundsException("no such entry");
        }
        return entries.get(number);
    }

    private Session sessionAt(int number) {
        if (number < 0 || number >= sessions.size()) {
            throw new IndexOutOfBoundsException("no such session");
        }
        return sessions.get(number);
    }

    private void requireStep(int step) {
        if (step < 0 || step >= record.count) {
            throw new IndexOutOfBoundsException("no such step");
        }
    }

    private static void requireLabel(int label) {
        if (label < 0 || label >= LABELS) {
            throw new IllegalArgumentException("label is out of range");
        }
    }

    private static void requireRoomFor(int number) {
        if (number >= MAX_ROWS) {
            throw new IllegalStateException("the object has been used for more than 512 calls");
        }
    }

    private static void requireOpen(Session session) {
        if (session.closed) {
            throw new IllegalStateException("the session is closed");
        }
    }

    private void requireMayAskOrEnter(Person who, Machine where) {
        if (!who.hasLabel(where.label)) {
            throw new IllegalStateException("the person does not have the label of the machine");
        }
        if (countOverdue(who) > 0) {
            throw new IllegalStateException("the person has an overdue entry");
        }
    }

    private void requireMayJudge(Ask asked, Person judge) {
        if (asked.stateAt(now) != WAITING) {
            throw new IllegalStateException("the ask does not wait");
        }
        if (!judge.mayJudge(asked.who, asked.where)) {
            throw new IllegalStateException("the person cannot approve the ask");
        }
    }

    private int countOverdue(Person who) {
        int count = 0;
        for (int i = 0; i < entries.size(); i++) {
            Entry entry = entries.get(i);
            if (entry.who == who && entry.isOverdueAt(now)) {
                count++;
            }
        }
        return count;
    }

    private boolean rightHolds(Person who, Machine where, int time) {
        for (int i = 0; i < rights.size(); i++) {
            Right right = rights.get(i);
            if (right.who == who && right.where == where && right.holdsAt(time)) {
                return true;
            }
        }
        return false;
    }

    private void endRights(Person who, Machine where) {
        for (int i = 0; i < rights.size(); i++) {
            Right right = rights.get(i);
            // A right that ended earlier keeps its end: couldEnter tells of the past.
            if (right.who == who && right.where == where && right.holdsAt(now)) {
                right.end = now;
            }
        }
    }

    private void denyWaitingAsks(Person who, Machine where) {
        for (int i = 0; i < asks.size(); i++) {
            Ask ask = asks.get(i);
            if (ask.who == who && ask.where == where && ask.stateAt(now) == WAITING) {
                ask.settled = DENIED;
            }
        }
    }

    private int closeEndedSessions() {
        int closed = 0;
        for (int i = 0; i < sessions.size(); i++) {
            Session session = sessions.get(i);
            if (!session.closed && (session.restsAt(now) || !rightHolds(session.who, session.where, now))) {
                endSession(session);
                closed++;
            }
        }
        return closed;
    }

    private void endSession(Session session) {
        session.closed = true;
        openCount--;
        record.add(STEP_CLOSED, session.who, session.where, now);
    }

    private static final class Person {
        private final int number;
        private final int team;
        private int labelBits = 0;

        private Person(int number, int team) {
            this.number = number;
            this.team = team;
        }

        private boolean hasLabel(int label) {
            return (labelBits >> label & 1) == 1;
        }

        private void keepLabel(int label, boolean has) {
            int bit = 1 << label;
            labelBits = has ? labelBits | bit : labelBits & ~bit;
        }

        /** Tells whether this person may judge what the other one asks or types on the machine. */
        private boolean mayJudge(Person other, Machine where) {
            return team != other.team && hasLabel(where.label);
        }
    }

    private static final class Machine {
        private final int number;
        private final int label;

        private Machine(int number, int label) {
            this.number = number;
            this.label = label;
        }
    }

    private static final class Ask {
        private final Person who;
        private final Machine where;
        private final int minutes;
        private final int time;
        private Person firstApprover = null;
        // A lapse is not kept here, as it follows from the clock.
        private int settled = WAITING;

        private Ask(Person who, Machine where, int minutes, int time) {
            this.who = who;
            this.where = where;
            this.minutes = minutes;
            this.time = time;
        }

        private int stateAt(int clock) {
            return settled == WAITING && clock - time >= LAPSE_MINUTES ? LAPSED : settled;
        }
    }

    private static final class Entry {
        private final Person who;
        private final Machine where;
        private final int time;
        private boolean lookedAt = false;

        private Entry(Person who, Machine where, int time) {
            this.who = who;
            this.where = where;
            this.time = time;
        }

        private boolean isOverdueAt(int clock) {
            return !lookedAt && clock - time >= OVERDUE_MINUTES;
        }
    }

    private static final class Right {
        private final Person who;
        private final Machine where;
        private final int begin;
        private int end;

        private Right(Person who, Machine where, int begin, int end) {
            this.who = who;
            this.where = where;
            this.begin = begin;
            this.end = end;
        }

        private boolean holdsAt(int time) {
            return begin <= time && time < end;
        }
    }

    private static final class Session {
        private final Person who;
        private final Machine where;
        private boolean closed = false;
        // The opening counts as a line here: the rest is counted from it at first.
        private int lastLine;
        private int heldSince = NEVER;
        private int linesLetThrough = 0;

        private Session(Person who, Machine where, int time) {
            this.who = who;
            this.where = where;
            this.lastLine = time;
        }

        private boolean holdsLine() {
            return heldSince != NEVER;
        }

        private boolean restsAt(int clock) {
            return clock - lastLine >= REST_MINUTES;
        }
    }

    private static final class StepRecord {
        private final int[] kinds = new int[MAX_STEPS];
        private final int[] seals = new int[MAX_STEPS];
        private int count = 0;
        private int lastSeal = 1;

        private void add(int kind, Person who, Machine where, int time) {
            // The calls that the document allows never fill the rows; later ones leave no step.
            if (count >= MAX_STEPS) {
                return;
            }
            // No term leaves int: 31 * 1000002 and 2000 * 100000 are the largest.
            lastSeal = (31 * lastSeal + kind + 10 * who.number + 200 * where.number + 2000 * time) % 1000003;
            kinds[count] = kind;
            seals[count] = lastSeal;
            count++;
        }
    }
}
