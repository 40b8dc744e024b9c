import java.util.ArrayList;
import java.util.Comparator;
import java.util.List;

/** The document written a second time, slow and plain: time goes second by second, counts are read from a log. */
public final class PlainWaves {
    private static final class Act {
        int incident;
        int trigger;
        int second;
        boolean rose;
    }

    private static final class Unit {
        int number;
        int skill;
        int doing;
        int incident = -1;
        int distance = -1;
    }

    private static final class Incident {
        boolean open = true;
        int step;
        int hurt;
        int row;
        int downs;
    }

    private final int[][] rows = new int[10][8];
    private final List<int[]> triggers = new ArrayList<>();
    private final List<Incident> incidents = new ArrayList<>();
    private final List<Unit> units = new ArrayList<>();
    private final List<Act> log = new ArrayList<>();
    private int top;
    private int now;
    private int strangeWords;
    private int recalled;

    private static void known(boolean yes) {
        if (!yes) {
            throw new IllegalArgumentException();
        }
    }

    private static void range(long number, long least, long greatest) {
        if (number < least || number > greatest) {
            throw new IndexOutOfBoundsException();
        }
    }

    private static void state(boolean yes) {
        if (!yes) {
            throw new IllegalStateException();
        }
    }

    private static void room(boolean yes) {
        if (!yes) {
            throw new UnsupportedOperationException();
        }
    }

    private static boolean below(int number, int bound) {
        return number >= 0 && number < bound;
    }

    public void row(int step, int skill, int count) {
        known(below(step, 10) && below(skill, 8));
        range(count, 0, 30);
        rows[step][skill] = count;
    }

    public void top(int step) {
        known(below(step, 10));
        state(incidents.stream().noneMatch(i -> i.open && i.step > step));
        top = step;
    }

    public int trigger(int kind, int what, int step, int span) {
        known(below(kind, 4) && below(step, 10));
        switch (kind) {
            case 0 -> range(what, 0, 99);
            case 1 -> range(what, 1, 1000);
            case 2 -> range(what, 1, 100000);
            default -> range(what, 0, 9);
        }
        range(span, 0, 100000);
        room(triggers.size() < 20);
        triggers.add(new int[] {kind, what, step, span});
        return triggers.size() - 1;
    }

    public int begin() {
        room(incidents.size() < 12);
        Incident one = new Incident();
        one.row = now;
        incidents.add(one);
        return incidents.size() - 1;
    }

    public void close(int incident) {
        known(below(incident, incidents.size()));
        state(incidents.get(incident).open);
        incidents.get(incident).open = false;
        units.stream().filter(u -> u.incident == incident).forEach(PlainWaves::free);
    }

    private static void free(Unit unit) {
        unit.doing = 0;
        unit.incident = -1;
        unit.distance = -1;
    }

    public int tick(int seconds) {
        range(seconds, 1, 5000);
        range((long) now + seconds, 0, 999999);
        int before = log.size();
        for (int i = 0; i < seconds; i++) {
            now++;
            for (int t = 0; t < triggers.size(); t++) {
                for (int n = 0; triggers.get(t)[0] == 2 && n < incidents.size(); n++) {
                    Incident at = incidents.get(n);
                    if (at.open && now - at.row == triggers.get(t)[1]) {
                        tryTrigger(n, t);
                    }
                }
            }
        }
        return log.size() - before;
    }

    private void tryTrigger(int incident, int trigger) {
        for (Act old : log) {
            if (old.incident == incident && old.trigger == trigger && now - old.second < triggers.get(trigger)[3]) {
                return;
            }
        }
        Incident at = incidents.get(incident);
        int step = triggers.get(trigger)[2] > top ? top : triggers.get(trigger)[2];
        Act act = new Act();
        act.incident = incident;
        act.trigger = trigger;
        act.second = now;
        act.rose = step > at.step;
        log.add(act);
        at.step = Math.max(at.step, step);
    }

    public int word(int incident, int w) {
        known(below(incident, incidents.size()));
        range(w, 0, 99);
        state(incidents.get(incident).open);
        strangeWords += triggers.stream().anyMatch(t -> t[0] == 0 && t[1] == w) ? 0 : 1;
        return said(incident, 0, w);
    }

    public int ask(int incident, int a) {
        known(below(incident, incidents.size()));
        range(a, 0, 9);
        state(incidents.get(incident).open);
        return said(incident, 3, a);
    }

    private int said(int incident, int kind, int what) {
        int before = log.size();
        for (int t = 0; t < triggers.size(); t++) {
            if (triggers.get(t)[0] == kind && triggers.get(t)[1] == what) {
                tryTrigger(incident, t);
            }
        }
        return log.size() - before;
    }

    public int hurt(int incident, int n) {
        known(below(incident, incidents.size()));
        range(n, 0, 10000);
        Incident at = incidents.get(incident);
        state(at.open);
        int before = log.size();
        for (int t = 0; t < triggers.size(); t++) {
            if (triggers.get(t)[0] == 1 && at.hurt < triggers.get(t)[1] && n >= triggers.get(t)[1]) {
                tryTrigger(incident, t);
            }
        }
        at.hurt = n;
        return log.size() - before;
    }

    public void tell(int incident) {
        known(below(incident, incidents.size()));
        state(incidents.get(incident).open);
        incidents.get(incident).row = now;
    }

    public int calm(int incident, int step) {
        known(below(incident, incidents.size()) && below(step, 10));
        Incident at = incidents.get(incident);
        state(at.open && at.step > step);
        at.step = step;
        at.downs++;
        int before = recalled;
        for (int skill = 0; skill < 8; skill++) {
            List<Unit> here = new ArrayList<>(forIncident(incident, skill));
            here.sort(Comparator.<Unit>comparingInt(u -> u.doing).thenComparingInt(u -> -u.distance)
                    .thenComparingInt(u -> -u.number));
            for (int i = 0; i < here.size() - rows[step][skill]; i++) {
                free(here.get(i));
                recalled++;
            }
        }
        return recalled - before;
    }

    private List<Unit> forIncident(int incident, int skill) {
        return units.stream().filter(u -> u.doing != 0 && u.incident == incident && u.skill == skill).toList();
    }

    public int unit(int skill) {
        known(below(skill, 8));
        room(units.size() < 40);
        Unit one = new Unit();
        one.number = units.size();
        one.skill = skill;
        units.add(one);
        return one.number;
    }

    public void go(int unit, int incident, int distance) {
        known(below(unit, units.size()) && below(incident, incidents.size()));
        range(distance, 0, 99999);
        state(units.get(unit).doing == 0 && incidents.get(incident).open);
        units.get(unit).doing = 1;
        units.get(unit).incident = incident;
        units.get(unit).distance = distance;
    }

    public void arrive(int unit) {
        known(below(unit, units.size()));
        state(units.get(unit).doing == 1);
        units.get(unit).doing = 2;
    }

    public int needed(int incident, int skill) {
        known(below(incident, incidents.size()) && below(skill, 8));
        state(incidents.get(incident).open);
        return rows[incidents.get(incident).step][skill] - forIncident(incident, skill).size();
    }

    public int incident(int incident, int what) {
        known(below(incident, incidents.size()) && below(what, 7));
        Incident at = incidents.get(incident);
        List<Act> acts = log.stream().filter(a -> a.incident == incident).toList();
        int ups = (int) acts.stream().filter(a -> a.rose).count();
        return new int[] {at.step, at.open ? 1 : 0, at.hurt, at.row, acts.size(), ups, at.downs}[what];
    }

    public int unitAt(int unit, int what) {
        known(below(unit, units.size()) && below(what, 3));
        Unit one = units.get(unit);
        return new int[] {one.doing, one.incident, one.distance}[what];
    }

    public int acted(int trigger) {
        known(below(trigger, triggers.size()));
        return (int) log.stream().filter(a -> a.trigger == trigger).count();
    }

    public int count(int what) {
        known(below(what, 4));
        return new int[] {now, strangeWords, recalled, (int) log.stream().filter(a -> !a.rose).count()}[what];
    }
}
