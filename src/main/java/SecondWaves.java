/** Second waves at an incident, as DOC.md promises them; the numbers of its promises stand at the methods. */
public final class SecondWaves {
    private static final int STEPS = 10;
    private static final int SKILLS = 8;
    private static final int MOST_OF_A_SKILL = 30;

    private static final int LAST_SECOND = 999999;
    private static final int LONGEST_TICK = 5000;

    private static final int MOST_TRIGGERS = 20;
    private static final int KIND_WORD = 0;
    private static final int KIND_HURT = 1;
    private static final int KIND_SILENCE = 2;
    private static final int KIND_ASK = 3;
    private static final int KINDS = 4;
    /* By kind: a word, a number of hurt, seconds of silence, an ask. */
    private static final int[] LEAST_WHAT = {0, 1, 1, 0};
    private static final int[] GREATEST_WHAT = {99, 1000, 100000, 9};
    private static final int LONGEST_SPAN = 100000;
    private static final int NEVER = -1;

    private static final int MOST_INCIDENTS = 12;
    private static final int LAST_WORD = 99;
    private static final int LAST_ASK = 9;
    private static final int MOST_HURT = 10000;

    private static final int MOST_UNITS = 40;
    private static final int FARTHEST = 99999;
    private static final int FREE = 0;
    private static final int UNDER_WAY = 1;
    private static final int THERE = 2;
    private static final int NONE = -1;

    private final int[][] rows = new int[STEPS][SKILLS];
    private int topStep;
    private int now;

    private final Trigger[] triggers = new Trigger[MOST_TRIGGERS];
    private int triggerCount;
    /* Numbers of the silence triggers, the shortest silence first, of the same the lesser number first. */
    private final int[] silences = new int[MOST_TRIGGERS];
    private int silenceCount;

    private final Incident[] incidents = new Incident[MOST_INCIDENTS];
    private int incidentCount;

    private final Unit[] units = new Unit[MOST_UNITS];
    private int unitCount;

    private int wordsOfNoTrigger;
    private int unitsRecalled;
    private int actedWithoutRise;

    /** Promise 1. All rows are made here and only used again later. */
    public SecondWaves() {
        for (int i = 0; i < MOST_TRIGGERS; i++) {
            triggers[i] = new Trigger();
        }
        for (int i = 0; i < MOST_INCIDENTS; i++) {
            incidents[i] = new Incident();
        }
        for (int i = 0; i < MOST_UNITS; i++) {
            units[i] = new Unit();
        }
    }

    /** Promise 2. */
    public void row(int step, int skill, int count) throws IllegalArgumentException, IndexOutOfBoundsException {
        refuseUnknownStep(step);
        refuseUnknownSkill(skill);
        refuseOutside(count, 0, MOST_OF_A_SKILL);
        rows[step][skill] = count;
    }

    /** Promise 3. */
    public void top(int step) throws IllegalArgumentException, IllegalStateException {
        refuseUnknownStep(step);
        if (isAnyOpenAbove(step)) {
            throw new IllegalStateException("an open incident is above this step");
        }
        topStep = step;
    }

    /** Promise 4. A step above the top is fine here: the top is looked at when the trigger acts. */
    public int trigger(int kind, int what, int step, int span)
            throws IllegalArgumentException, IndexOutOfBoundsException, UnsupportedOperationException {
        if (kind < 0 || kind >= KINDS) {
            throw new IllegalArgumentException("no such kind");
        }
        refuseUnknownStep(step);
        refuseOutside(what, LEAST_WHAT[kind], GREATEST_WHAT[kind]);
        refuseOutside(span, 0, LONGEST_SPAN);
        if (triggerCount >= MOST_TRIGGERS) {
            throw new UnsupportedOperationException("no room for one more trigger");
        }
        int number = triggerCount;
        triggerCount++;
        triggers[number].set(kind, what, step, span);
        if (kind == KIND_SILENCE) {
            addSilence(number);
        }
        return number;
    }

    /** Promise 5. */
    public int begin() throws UnsupportedOperationException {
        if (incidentCount >= MOST_INCIDENTS) {
            throw new UnsupportedOperationException("no room for one more incident");
        }
        int number = incidentCount;
        incidentCount++;
        incidents[number].open = true;
        incidents[number].latestRow = now;
        return number;
    }

    /** Promise 6. */
    public void close(int incident) throws IllegalArgumentException, IllegalStateException {
        Incident at = knownIncident(incident);
        refuseClosed(at);
        at.open = false;
        for (int i = 0; i < unitCount; i++) {
            if (units[i].incident == incident) {
                units[i].setFree();
            }
        }
    }

    /** Promise 7. Incidents do not touch one another, so each may go through all the seconds by itself. */
    public int tick(int seconds) throws IndexOutOfBoundsException {
        refuseOutside(seconds, 1, LONGEST_TICK);
        refuseOutside(now + seconds, 0, LAST_SECOND);
        int end = now + seconds;
        int acting = 0;
        for (int i = 0; i < incidentCount; i++) {
            if (incidents[i].open) {
                acting += stayedSilent(incidents[i], end);
            }
        }
        now = end;
        return acting;
    }

    /** Promise 8. */
    public int word(int incident, int w)
            throws IllegalArgumentException, IndexOutOfBoundsException, IllegalStateException {
        Incident at = knownIncident(incident);
        refuseOutside(w, 0, LAST_WORD);
        refuseClosed(at);
        if (!hasTriggerForWord(w)) {
            wordsOfNoTrigger++;
        }
        return happened(at, KIND_WORD, w, w);
    }

    /** Promise 9. */
    public int hurt(int incident, int n)
            throws IllegalArgumentException, IndexOutOfBoundsException, IllegalStateException {
        Incident at = knownIncident(incident);
        refuseOutside(n, 0, MOST_HURT);
        refuseClosed(at);
        int before = at.hurt;
        at.hurt = n;
        return happened(at, KIND_HURT, before + 1, n);
    }

    /** Promise 10. */
    public int ask(int incident, int a)
            throws IllegalArgumentException, IndexOutOfBoundsException, IllegalStateException {
        Incident at = knownIncident(incident);
        refuseOutside(a, 0, LAST_ASK);
        refuseClosed(at);
        return happened(at, KIND_ASK, a, a);
    }

    /** Promise 11. */
    public void tell(int incident) throws IllegalArgumentException, IllegalStateException {
        Incident at = knownIncident(incident);
        refuseClosed(at);
        at.latestRow = now;
    }

    /** Promise 12. */
    public int calm(int incident, int step) throws IllegalArgumentException, IllegalStateException {
        Incident at = knownIncident(incident);
        refuseUnknownStep(step);
        refuseClosed(at);
        if (at.step <= step) {
            throw new IllegalStateException("the incident's step is not above this one");
        }
        at.step = step;
        at.timesDown++;
        int recalled = 0;
        for (int skill = 0; skill < SKILLS; skill++) {
            recalled += recallTooMuch(incident, skill, rows[step][skill]);
        }
        unitsRecalled += recalled;
        return recalled;
    }

    /** Promise 13. */
    public int unit(int skill) throws IllegalArgumentException, UnsupportedOperationException {
        refuseUnknownSkill(skill);
        if (unitCount >= MOST_UNITS) {
            throw new UnsupportedOperationException("no room for one more unit");
        }
        int number = unitCount;
        unitCount++;
        units[number].skill = skill;
        return number;
    }

    /** Promise 14. */
    public void go(int unit, int incident, int distance)
            throws IllegalArgumentException, IndexOutOfBoundsException, IllegalStateException {
        Unit going = knownUnit(unit);
        Incident at = knownIncident(incident);
        refuseOutside(distance, 0, FARTHEST);
        if (going.doing != FREE) {
            throw new IllegalStateException("the unit is not free");
        }
        refuseClosed(at);
        going.doing = UNDER_WAY;
        going.incident = incident;
        going.distance = distance;
    }

    /** Promise 15. */
    public void arrive(int unit) throws IllegalArgumentException, IllegalStateException {
        Unit arriving = knownUnit(unit);
        if (arriving.doing != UNDER_WAY) {
            throw new IllegalStateException("the unit is not under way");
        }
        arriving.doing = THERE;
    }

    /** Promise 16. */
    public int needed(int incident, int skill) throws IllegalArgumentException, IllegalStateException {
        Incident at = knownIncident(incident);
        refuseUnknownSkill(skill);
        refuseClosed(at);
        return rows[at.step][skill] - unitsFor(incident, skill);
    }

    /** Promise 17. */
    public int incident(int incident, int what) throws IllegalArgumentException {
        Incident at = knownIncident(incident);
        switch (what) {
            case 0:
                return at.step;
            case 1:
                return at.open ? 1 : 0;
            case 2:
                return at.hurt;
            case 3:
                return at.latestRow;
            case 4:
                return at.timesActed;
            case 5:
                return at.timesUp;
            case 6:
                return at.timesDown;
            default:
                throw new IllegalArgumentException("no such thing is told of an incident");
        }
    }

    /** Promise 18. */
    public int unitAt(int unit, int what) throws IllegalArgumentException {
        Unit asked = knownUnit(unit);
        switch (what) {
            case 0:
                return asked.doing;
            case 1:
                return asked.incident;
            case 2:
                return asked.distance;
            default:
                throw new IllegalArgumentException("no such thing is told of a unit");
        }
    }

    /** Promise 19. */
    public int acted(int trigger) throws IllegalArgumentException {
        if (trigger < 0 || trigger >= triggerCount) {
            throw new IllegalArgumentException("no such trigger");
        }
        return triggers[trigger].timesActed;
    }

    /** Promise 20. */
    public int count(int what) throws IllegalArgumentException {
        switch (what) {
            case 0:
                return now;
            case 1:
                return wordsOfNoTrigger;
            case 2:
                return unitsRecalled;
            case 3:
                return actedWithoutRise;
            default:
                throw new IllegalArgumentException("no such thing is counted");
        }
    }

    private static void refuseUnknownStep(int step) {
        if (step < 0 || step >= STEPS) {
            throw new IllegalArgumentException("no such step");
        }
    }

    private static void refuseUnknownSkill(int skill) {
        if (skill < 0 || skill >= SKILLS) {
            throw new IllegalArgumentException("no such skill");
        }
    }

    private static void refuseOutside(int number, int least, int greatest) {
        if (number < least || number > greatest) {
            throw new IndexOutOfBoundsException("a number is outside its range");
        }
    }

    private static void refuseClosed(Incident at) {
        if (!at.open) {
            throw new IllegalStateException("the incident is closed");
        }
    }

    private Incident knownIncident(int number) {
        if (number < 0 || number >= incidentCount) {
            throw new IllegalArgumentException("no such incident");
        }
        return incidents[number];
    }

    private Unit knownUnit(int number) {
        if (number < 0 || number >= unitCount) {
            throw new IllegalArgumentException("no such unit");
        }
        return units[number];
    }

    private boolean isAnyOpenAbove(int step) {
        for (int i = 0; i < incidentCount; i++) {
            if (incidents[i].open && incidents[i].step > step) {
                return true;
            }
        }
        return false;
    }

    private boolean hasTriggerForWord(int w) {
        for (int i = 0; i < triggerCount; i++) {
            if (triggers[i].isFor(KIND_WORD, w, w)) {
                return true;
            }
        }
        return false;
    }

    /* The new number is the greatest, so it goes behind those of the same silence. */
    private void addSilence(int number) {
        int place = silenceCount;
        silenceCount++;
        while (place > 0 && triggers[silences[place - 1]].what > triggers[number].what) {
            silences[place] = silences[place - 1];
            place--;
        }
        silences[place] = number;
    }

    /* How many triggers of the kind acted now, of those that wait for one of these numbers. */
    private int happened(Incident at, int kind, int least, int greatest) {
        int acting = 0;
        for (int i = 0; i < triggerCount; i++) {
            if (triggers[i].isFor(kind, least, greatest) && act(at, i, now)) {
                acting++;
            }
        }
        return acting;
    }

    /* The latest row stays the same meanwhile, so the order of silences is the order of seconds. */
    private int stayedSilent(Incident at, int end) {
        int acting = 0;
        for (int i = 0; i < silenceCount; i++) {
            int due = at.latestRow + triggers[silences[i]].what;
            if (due > now && due <= end && act(at, silences[i], due)) {
                acting++;
            }
        }
        return acting;
    }

    /* Whether the trigger acted: not while its span since the last time at this incident runs. */
    private boolean act(Incident at, int number, int second) {
        Trigger acting = triggers[number];
        int last = at.actedAt[number];
        if (last != NEVER && second - last < acting.span) {
            return false;
        }
        at.actedAt[number] = second;
        at.timesActed++;
        acting.timesActed++;
        raise(at, Math.min(acting.step, topStep));
        return true;
    }

    private void raise(Incident at, int step) {
        if (step > at.step) {
            at.step = step;
            at.timesUp++;
        } else {
            actedWithoutRise++;
        }
    }

    private int unitsFor(int incident, int skill) {
        int found = 0;
        for (int i = 0; i < unitCount; i++) {
            if (units[i].isFor(incident, skill)) {
                found++;
            }
        }
        return found;
    }

    private int recallTooMuch(int incident, int skill, int wanted) {
        int tooMuch = Math.max(unitsFor(incident, skill) - wanted, 0);
        for (int i = 0; i < tooMuch; i++) {
            recallOne(incident, skill);
        }
        return tooMuch;
    }

    private void recallOne(int incident, int skill) {
        int first = NONE;
        for (int i = 0; i < unitCount; i++) {
            if (units[i].isFor(incident, skill) && (first == NONE || units[i].goesBackBefore(units[first]))) {
                first = i;
            }
        }
        if (first != NONE) {
            units[first].setFree();
        }
    }

    private static final class Trigger {
        private int kind;
        private int what;
        private int step;
        private int span;
        private int timesActed;

        private void set(int newKind, int newWhat, int newStep, int newSpan) {
            kind = newKind;
            what = newWhat;
            step = newStep;
            span = newSpan;
        }

        private boolean isFor(int askedKind, int least, int greatest) {
            return kind == askedKind && what >= least && what <= greatest;
        }
    }

    private static final class Incident {
        private boolean open;
        private int step;
        private int hurt;
        private int latestRow;
        private int timesActed;
        private int timesUp;
        private int timesDown;
        /* By trigger: the second in which it last acted here, or NEVER. */
        private final int[] actedAt = new int[MOST_TRIGGERS];

        private Incident() {
            for (int i = 0; i < MOST_TRIGGERS; i++) {
                actedAt[i] = NEVER;
            }
        }
    }

    private static final class Unit {
        private int skill;
        private int doing = FREE;
        private int incident = NONE;
        private int distance = NONE;

        private void setFree() {
            doing = FREE;
            incident = NONE;
            distance = NONE;
        }

        private boolean isFor(int askedIncident, int askedSkill) {
            return incident == askedIncident && skill == askedSkill;
        }

        /* The other has the lesser number: at the same distance this one goes back first. */
        private boolean goesBackBefore(Unit other) {
            if (doing != other.doing) {
                return doing == UNDER_WAY;
            }
            return distance >= other.distance;
        }
    }
}
