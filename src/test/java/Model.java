import java.util.ArrayList;
import java.util.Arrays;
import java.util.List;

/**
 * The document told a second time, plainly and dearly, with the Java library and kinds as Java classes:
 * what the class answers is compared with it, call by call.
 */
final class Model {
    /** Refused with this answer; counted by refuse(). */
    private static final class No extends RuntimeException {
        private static final long serialVersionUID = 1L;
        final int answer;

        No(int answer) {
            super(null, null, false, false);
            this.answer = answer;
        }
    }

    // ---- people as Java has kinds: each body where the document has it

    static class Person {
        final int number;
        final int a;
        final List<Integer> trace;

        Person(int number, int a, List<Integer> trace) {
            this.number = number;
            this.a = a;
            this.trace = trace;
        }

        int kind() { return 0; }
        int load(int slope, int tired) { return 4 + slope; }
        int rest() { return 2; }
        int lifts(int x) { trace.add(10); return x + number; }
        int steps(int x) { trace.add(11); return lifts(x) * 2; }
        int rests(int x) { trace.add(12); return steps(x) ^ lifts(x - a); }
    }

    static class Strong extends Person {
        Strong(int n, int a, List<Integer> t) { super(n, a, t); }
        int kind() { return 1; }
        int load(int slope, int tired) { return super.load(slope, tired) - 1; }
        int lifts(int x) { trace.add(20); return super.lifts(x) + a; }
    }

    static class Strange extends Person {
        Strange(int n, int a, List<Integer> t) { super(n, a, t); }
        int kind() { return 2; }
        int load(int slope, int tired) { return super.load(slope, tired) + 1; }
        int steps(int x) { trace.add(30); return super.steps(x) * 3; }
    }

    static class Father extends Strong {
        Father(int n, int a, List<Integer> t) { super(n, a, t); }
        int kind() { return 3; }
        int load(int slope, int tired) { return super.load(slope, tired) - 1; }
        int rest() { return 3; }
        int steps(int x) { trace.add(40); return super.steps(x + 1); }
    }

    static class Small extends Person {
        Small(int n, int a, List<Integer> t) { super(n, a, t); }
        int kind() { return 4; }
        int load(int slope, int tired) { return super.load(slope, tired) + 2; }
        int rests(int x) { trace.add(50); return -super.rests(x); }
        int lifts(int x) { trace.add(51); return super.lifts(x) - number; }
    }

    static class Uncle extends Strange {
        Uncle(int n, int a, List<Integer> t) { super(n, a, t); }
        int kind() { return 5; }
        int load(int slope, int tired) { return super.load(slope, tired) - 1; }
        int rests(int x) { trace.add(60); return super.rests(x) ^ 5; }
    }

    static class Gran extends Small {
        Gran(int n, int a, List<Integer> t) { super(n, a, t); }
        int kind() { return 6; }
        int load(int slope, int tired) { return super.load(slope, tired) + tired / 10; }
        int lifts(int x) { trace.add(70); return super.lifts(x) * 2; }
        int steps(int x) { trace.add(71); return super.steps(x - a); }
    }

    private Person born(int kind, int number, int a) {
        switch (kind) {
            case 0: return new Person(number, a, trace);
            case 1: return new Strong(number, a, trace);
            case 2: return new Strange(number, a, trace);
            case 3: return new Father(number, a, trace);
            case 4: return new Small(number, a, trace);
            case 5: return new Uncle(number, a, trace);
            default: return new Gran(number, a, trace);
        }
    }

    private static boolean isOf(Person p, int kind) {
        switch (kind) {
            case 0: return true;
            case 1: return p instanceof Strong;
            case 2: return p instanceof Strange;
            case 3: return p instanceof Father;
            case 4: return p instanceof Small;
            case 5: return p instanceof Uncle;
            default: return p instanceof Gran;
        }
    }

    // ---- how all stands; never shared, always copied

    static final class State {
        List<Integer> slopes = new ArrayList<>();
        List<Boolean> stiles = new ArrayList<>();
        List<Person> people = new ArrayList<>();
        List<Integer> tired = new ArrayList<>();
        int bag = -1, most = 3, legs = 3, nap = 4, on = 0, biscuits = 2, races = 1, worn = 20;
        int here = 0, minutes = 0, seed = 1;

        State copy() {
            State c = new State();
            c.slopes.addAll(slopes);
            c.stiles.addAll(stiles);
            c.people.addAll(people);
            c.tired.addAll(tired);
            c.bag = bag; c.most = most; c.legs = legs; c.nap = nap; c.on = on;
            c.biscuits = biscuits; c.races = races; c.worn = worn;
            c.here = here; c.minutes = minutes; c.seed = seed;
            return c;
        }

        boolean end() { return here == slopes.size(); }

        int load(int p, int slope) {
            return Math.max(1, people.get(p).load(slope, tired.get(p)) + (bag == p ? 2 : 0));
        }

        boolean may(int act) {
            if (act == 9) {
                return minutes <= 900 && (here == 0 || stiles.get(here - 1));
            }
            if (end() || act < 0 || act > 9) {
                return false;
            }
            boolean asleep = on >= nap;
            if (act == 6) return legs > 0 && !asleep;
            if (act == 7) return biscuits > 0 && !asleep;
            if (act == 8) return races > 0 && !asleep;
            if (act >= people.size()) return false;
            Person p = people.get(act);
            if (p instanceof Strange && !asleep) return false;
            if (p instanceof Gran && slopes.get(here) > 1) return false;
            return tired.get(act) + load(act, slopes.get(here)) <= worn;
        }

        State after(int act) {
            State c = copy();
            c.go(act);
            return c;
        }

        private void go(int act) {
            if (act == 9) {
                minutes += 10;
                tired.replaceAll(t -> Math.max(0, t - 6));
                on = 0;
                if (legs < most) legs = most;
                return;
            }
            int slope = slopes.get(here);
            int carrier = act < 6 ? act : -1;
            if (carrier >= 0) {
                int load = load(carrier, slope);
                tired.set(carrier, tired.get(carrier) + load);
                on++;
                if (on % 2 == 0 && legs < most) legs++;
                int m = 6 + slope;
                if (on == 1) m++;
                minutes += m < 3 ? 3 : m;
            } else {
                if (act == 7) { biscuits--; legs = Math.min(most + 2, legs + 2); }
                if (act == 8) { races--; legs = Math.min(most + 2, legs + 1); }
                legs--;
                on = 0;
                minutes += 9 + slope;
            }
            for (int p = 0; p < people.size(); p++) {
                if (p != carrier) {
                    int r = people.get(p).rest();
                    if (p == bag) r--;
                    tired.set(p, Math.max(0, tired.get(p) - r));
                }
            }
            here++;
        }

        int greatest() {
            return tired.stream().mapToInt(t -> t).max().orElse(0);
        }
    }

    State now = new State();
    State image = null;
    int[] refused = new int[8];
    int latestFault = -1;
    List<Integer> trace = new ArrayList<>();
    // A shelf holds null, an Integer (a person) or a Row.
    Object[] shelves = new Object[8];

    static final class Row {
        final int sort;
        final long[] v;

        Row(int sort, int n) {
            this.sort = sort;
            this.v = new long[n];
        }
    }

    private No no(int answer) {
        refused[-answer > 10 ? -answer - 10 : -answer]++;
        return new No(answer);
    }

    private void need(boolean holds, int answer) {
        if (!holds) throw no(answer);
    }

    private Row needRow(int s, int far) {
        need(s >= 0 && s < 8, -1 - far);
        need(!(shelves[s] instanceof Integer), -2 - far);
        need(shelves[s] != null, -3 - far);
        return (Row) shelves[s];
    }

    // ---- the calls, by name; a refusal comes as No and is turned into its answer

    long call(String name, long... a) {
        try {
            return answer(name, a);
        } catch (No no) {
            return no.answer;
        }
    }

    private long answer(String name, long[] l) {
        int[] a = new int[l.length];
        for (int i = 0; i < a.length; i++) a[i] = (int) l[i];
        switch (name) {
            case "row": return row(a[0], a[1], a[2]);
            case "set": return set(a[0], a[1], l[2]);
            case "copy": return copy(a[0], a[1], a[2], a[3], a[4]);
            case "element": return element(a[0], a[1]);
            case "show": return show(a[0], a[1]);
            case "holds": return holds(a[0]);
            case "says": return says(a[0], a[1]);
            case "furlong": return furlong(a[0], a[1] != 0);
            case "person": return person(a[0], a[1]);
            case "furlongOf": return furlongOf(a[0], a[1]);
            case "personOf": return personOf(a[0], a[1]);
            case "ask": return ask(a[0], a[1]);
            case "tire": return tire(a[0], a[1]);
            case "bag": return bag(a[0]);
            case "way": return way(a[0]);
            case "fault": return latestFault;
            case "load": return load(a[0], a[1]);
            case "may": need(a[0] >= 0 && a[0] <= 9, -6); return now.may(a[0]) ? 1 : 0;
            case "next": return next();
            case "ahead": return ahead(a[0], a[1]);
            case "by": return by(a[0], a[1]);
            case "best": return best(a[0]);
            case "whose": return whose(a[0]);
            case "turn": return turn(a[0], a[1]);
            case "pays": return pays(a[0]);
            case "bagged": return bagged(a[0]);
            case "judge": return judge(a[0], a[1]);
            case "behind": return behind(a[0], a[1], a[2]);
            case "done": return done(a[0], a[1]);
            case "fits": return fits(a[0]);
            case "enough": return enough();
            case "leastWorn": return leastWorn(a[0]);
            case "does": need(now.may(a[0]), -6); now = now.after(a[0]); return now.here;
            case "summer": return summer(a[0]);
            case "day": return day();
            case "seed": { int was = now.seed; now.seed = a[0]; return was; }
            case "act": return act(a[0], a[1], a[2]);
            case "trace": return a[0] >= 0 && a[0] < Math.min(20, trace.size()) ? trace.get(a[0]) : -1;
            case "image": image = now.copy(); return now.people.size();
            case "restore": return restore();
            case "status": return status(a[0]);
            default: throw new IllegalArgumentException(name);
        }
    }

    private int row(int s, int sort, int n) {
        need(s >= 0 && s < 8, -1);
        need(n >= 0, -4);
        need(sort >= 0 && sort <= 3, -6);
        need(n <= 160, -7);
        shelves[s] = new Row(sort, n);
        return 1;
    }

    private int set(int s, int i, long v) {
        Row r = needRow(s, 0);
        need(i >= 0 && i < r.v.length, -5);
        r.v[i] = r.sort == 0 ? (byte) v : r.sort == 1 ? (short) v : r.sort == 2 ? (int) v : v;
        return 1;
    }

    private int copy(int p, int q, int i, int j, int n) {
        need(p >= 0 && p < 8 && q >= 0 && q < 8, -1);
        Object a = shelves[p], b = shelves[q];
        need(!(a instanceof Integer) && !(b instanceof Integer), -2);
        need(a == null || b == null || ((Row) a).sort == ((Row) b).sort, -2);
        need(a != null && b != null, -3);
        need(n >= 0, -4);
        long[] from = ((Row) a).v.clone();
        long[] to = ((Row) b).v;
        need(i >= 0 && j >= 0 && (long) i + n <= from.length && (long) j + n <= to.length, -5);
        for (int k = 0; k < n; k++) to[j + k] = from[i + k];
        return 1;
    }

    private long element(int s, int i) {
        if (s < 0 || s > 7 || !(shelves[s] instanceof Row)) return 0;
        Row r = (Row) shelves[s];
        return i >= 0 && i < r.v.length ? r.v[i] : 0;
    }

    private boolean there(int person) { return person >= 0 && person < now.people.size(); }

    private int show(int s, int person) {
        need(s >= 0 && s < 8, -1);
        need(person == -1 || there(person), -1);
        shelves[s] = person == -1 ? null : Integer.valueOf(person);
        return person == -1 ? 0 : 1;
    }

    private int holds(int s) {
        if (s < 0 || s > 7 || shelves[s] == null) return -1;
        return shelves[s] instanceof Integer ? (Integer) shelves[s] : 100 + ((Row) shelves[s]).sort;
    }

    private int says(int s, int kind) {
        need(s >= 0 && s < 8 && kind >= 0 && kind <= 6, -1);
        need(!(shelves[s] instanceof Row), -2);
        need(shelves[s] == null || isOf(now.people.get((Integer) shelves[s]), kind), -2);
        need(shelves[s] != null, -3);
        int p = (Integer) shelves[s];
        if (kind == 0) return now.tired.get(p);
        if (kind == 1 || kind == 3) return now.people.get(p).rest();
        if (kind == 2 || kind == 5) return now.on >= now.nap ? 1 : 0;
        return now.load(p, 0);
    }

    private int furlong(int slope, boolean stile) {
        need(slope >= -3 && slope <= 3, -6);
        need(now.slopes.size() < 24, -7);
        now.slopes.add(slope);
        now.stiles.add(stile);
        return now.slopes.size() - 1;
    }

    private int person(int kind, int a) {
        need(kind >= 0 && kind <= 6, -1);
        need(a >= 0 && a <= 9, -6);
        need(now.people.size() < 6, -7);
        now.people.add(born(kind, now.people.size(), a));
        now.tired.add(0);
        return now.people.size() - 1;
    }

    private int furlongOf(int f, int what) {
        need(f >= 0 && f < now.slopes.size() && (what == 0 || what == 1), -15);
        return what == 0 ? now.slopes.get(f) : now.stiles.get(f) ? 1 : 0;
    }

    private int personOf(int p, int what) {
        need(there(p) && what >= 0 && what <= 3, -5);
        return new int[] {now.people.get(p).kind(), now.people.get(p).a, now.tired.get(p), now.bag == p ? 1 : 0}[what];
    }

    private int ask(int what, int v) {
        need(what >= 0 && what <= 4, -6);
        need(v >= (what < 3 ? 1 : 0) && v <= (what == 2 ? 99 : 9), -6);
        int was = status(6 + what);
        asked(now, what, v);
        return was;
    }

    private static void asked(State st, int what, int v) {
        if (what == 0) { st.most = v; if (st.legs > v) st.legs = v; }
        if (what == 1) st.nap = v;
        if (what == 2) st.worn = v;
        if (what == 3) st.biscuits = v;
        if (what == 4) st.races = v;
    }

    private int tire(int p, int v) {
        need(there(p), -1);
        need(v >= 0 && v <= 99, -6);
        return now.tired.set(p, v);
    }

    private int bag(int p) {
        need(p == -1 || there(p), -11);
        int was = now.bag;
        now.bag = p;
        return was;
    }

    // ---- texts

    private static final List<String> WORDS = Arrays.asList("up", "down", "stile", "person", "tired", "bag",
        "legs", "nap", "worn", "biscuits", "races", "act");
    private String text;
    private int place;

    private No faultAt(int place) {
        latestFault = place;
        return no(-6);
    }

    private int way(int s) {
        Row r = needRow(s, 0);
        StringBuilder b = new StringBuilder();
        for (long v : r.v) b.append((int) v >= 0 && (int) v < 128 ? (char) v : '\uffff');
        text = b.toString();
        place = 0;
        State was = now;
        now = now.copy();
        int items = 0;
        try {
            while (true) {
                item();
                items++;
                if (place == text.length()) break;
                sign(';');
            }
        } catch (No no) {
            now = was;
            throw no;
        }
        latestFault = -1;
        return items;
    }

    private void sign(char c) {
        if (place == text.length() || text.charAt(place) != c) throw faultAt(place);
        place++;
    }

    private int numberPlace;

    private int number(int least, int most) {
        sign(' ');
        numberPlace = place;
        int end = place;
        while (end < text.length() && end < place + 2 && "0123456789".indexOf(text.charAt(end)) >= 0) end++;
        if (end == place) throw faultAt(place);
        int n = Integer.parseInt(text.substring(place, end));
        if (n < least || n > most) throw faultAt(place);
        place = end;
        return n;
    }

    private void item() {
        int start = place;
        String word = null;
        int common = 0;
        for (String w : WORDS) {
            int c = 0;
            while (c < w.length() && place + c < text.length() && text.charAt(place + c) == w.charAt(c)) c++;
            if (c == w.length()) word = w;
            common = Math.max(common, c);
        }
        if (word == null) throw faultAt(place + common);
        place += word.length();
        if (word.equals("up") || word.equals("down")) {
            if (now.slopes.size() == 24) throw faultAt(start);
            int n = number(0, 3);
            furlong(word.equals("up") ? n : -n, false);
        } else if (word.equals("stile")) {
            if (now.slopes.isEmpty()) throw faultAt(start);
            now.stiles.set(now.stiles.size() - 1, true);
        } else if (word.equals("person")) {
            if (now.people.size() == 6) throw faultAt(start);
            int k = number(0, 6);
            person(k, number(0, 9));
        } else if (word.equals("tired")) {
            int p = number(0, now.people.size() - 1);
            now.tired.set(p, number(0, 99));
        } else if (word.equals("bag")) {
            now.bag = number(0, now.people.size() - 1);
        } else if (word.equals("act")) {
            int x = number(0, 9);
            if (!now.may(x)) throw faultAt(numberPlace);
            now = now.after(x);
        } else {
            int what = Arrays.asList("legs", "nap", "worn", "biscuits", "races").indexOf(word);
            asked(now, what, number(what < 3 ? 1 : 0, what == 2 ? 99 : 9));
        }
    }

    // ---- what comes of it

    private int load(int p, int f) {
        need(there(p), -1);
        need(f >= 0 && f < now.slopes.size(), -5);
        return now.load(p, now.slopes.get(f));
    }

    private int next() {
        int bits = 0;
        for (int x = 0; x < 10; x++) if (now.may(x)) bits += 1 << x;
        return bits;
    }

    private void rows(State st, int n, List<Integer> row, int worst, List<int[]> all) {
        boolean any = false;
        if (n > 0 && !st.end()) {
            for (int x = 0; x < 10; x++) {
                if (st.may(x)) {
                    any = true;
                    State c = st.after(x);
                    row.add(x);
                    rows(c, n - 1, row, Math.max(worst, c.greatest()), all);
                    row.remove(row.size() - 1);
                }
            }
        }
        if (!any) {
            int[] told = new int[4 + row.size()];
            told[0] = row.size();
            told[1] = st.here - now.here;
            told[2] = worst;
            told[3] = st.minutes - now.minutes;
            for (int i = 0; i < row.size(); i++) told[4 + i] = row.get(i);
            all.add(told);
        }
    }

    private int ahead(int n, int what) {
        need(what >= -1 && what <= 6, -5);
        need(n >= 1 && n <= 4, -6);
        List<int[]> all = new ArrayList<>();
        rows(now, n, new ArrayList<>(), now.greatest(), all);
        int most = all.stream().mapToInt(r -> r[1]).max().getAsInt();
        all.removeIf(r -> r[1] < most);
        int least = all.stream().mapToInt(r -> r[2]).min().getAsInt();
        all.removeIf(r -> r[2] > least);
        int fewest = all.stream().mapToInt(r -> r[3]).min().getAsInt();
        all.removeIf(r -> r[3] > fewest);
        int[] best = all.get(0);
        if (what == -1) return best[0];
        if (what >= 4) return best[what - 3];
        need(what < best[0], -5);
        return best[4 + what];
    }

    /** All states by a rule, the first as it stands; the greatest tired ever is over them all. */
    private static List<State> course(State from, int rule) {
        List<State> course = new ArrayList<>();
        course.add(from);
        State st = from;
        int turn = 0;
        for (int i = 0; i < 60 && !st.end(); i++) {
            int people = st.people.size();
            List<Integer> wish = new ArrayList<>();
            if (rule >= 2) wish.add(6);
            if (rule == 3) { wish.add(7); wish.add(8); }
            if (rule == 0) {
                for (int p = 0; p < people; p++) wish.add((turn + p) % people);
            } else {
                List<Integer> fresh = new ArrayList<>();
                for (int p = 0; p < people; p++) fresh.add(p);
                State s = st;
                fresh.sort((p, q) -> s.tired.get(p) - s.tired.get(q));
                wish.addAll(fresh);
            }
            wish.add(6);
            wish.add(9);
            int x = -1;
            for (int w : wish) if (x < 0 && st.may(w)) x = w;
            if (x < 0) break;
            if (rule == 0 && x < 6) turn = x;
            State c = st.after(x);
            if (c.here > st.here && c.stiles.get(st.here) && people > 0) turn = (turn + 1) % people;
            st = c;
            course.add(st);
        }
        return course;
    }

    private static State last(List<State> course) { return course.get(course.size() - 1); }

    private static int worst(List<State> course) {
        return course.stream().mapToInt(State::greatest).max().getAsInt();
    }

    private int by(int rule, int what) {
        need(what >= 0 && (what <= 3 || what >= 10 && there(what - 10)), -5);
        need(rule >= 0 && rule <= 3, -6);
        List<State> c = course(now, rule);
        if (what == 0) return last(c).here;
        if (what == 1) return last(c).minutes;
        if (what == 2) return worst(c);
        if (what == 3) return c.size() - 1;
        return last(c).tired.get(what - 10);
    }

    private int best(int what) {
        need(what == 0 || what == 1, -5);
        int best = 0;
        for (int r = 1; r < 4; r++) {
            int cost = what == 0 ? by(r, 2) - by(best, 2) : by(r, 1) - by(best, 1);
            int far = by(r, 0) - by(best, 0);
            if (far > 0 || far == 0 && cost < 0) best = r;
        }
        return best;
    }

    private int whose(int f) {
        need(f >= 0 && f < now.slopes.size() && !now.people.isEmpty(), -5);
        int best = 0;
        for (int p = 0; p < now.people.size(); p++) if (load(p, f) < load(best, f)) best = p;
        return best;
    }

    private int turn(int rule, int n) {
        need(rule >= 0 && rule <= 3, -16);
        int most = -1;
        for (State st : course(now, rule)) {
            if (st.minutes + 9 * st.here <= n) most = Math.max(most, st.here - now.here);
        }
        return most;
    }

    private int pays(int rule) {
        need(rule >= 0 && rule <= 3, -6);
        if (!now.may(9)) return 0;
        List<State> without = course(now, rule);
        List<State> with = course(now.after(9), rule);
        int far = last(with).here - last(without).here;
        return far > 0 || far == 0 && Math.max(now.greatest(), worst(with)) < worst(without) ? 1 : 0;
    }

    private int bagged(int rule) {
        need(rule >= 0 && rule <= 3, -16);
        int best = -2, far = 0, worst = 0;
        for (int p = -1; p < now.people.size(); p++) {
            State st = now.copy();
            st.bag = p;
            List<State> c = course(st, rule);
            if (best == -2 || last(c).here > far || last(c).here == far && worst(c) < worst) {
                best = p;
                far = last(c).here;
                worst = worst(c);
            }
        }
        return best;
    }

    private Row needWalk(int s, int n, int far) {
        Row r = needRow(s, far);
        need(n >= 0, -4 - far);
        need(n <= r.v.length, -5 - far);
        return r;
    }

    private State behindWalk;

    private int wrongIn(Row r, int n) {
        behindWalk = now;
        for (int i = 0; i < n; i++) {
            if (!behindWalk.may((int) r.v[i])) return i;
            behindWalk = behindWalk.after((int) r.v[i]);
        }
        return -1;
    }

    private int judge(int s, int n) {
        Row r = needWalk(s, n, 10);
        need(n <= 60, -16);
        return wrongIn(r, n);
    }

    private int behind(int s, int n, int what) {
        Row r = needWalk(s, n, 0);
        need(what >= 0 && what <= 3, -5);
        need(n <= 60 && wrongIn(r, n) == -1, -6);
        return new int[] {behindWalk.here, behindWalk.minutes, behindWalk.greatest(), behindWalk.legs}[what];
    }

    private int done(int s, int n) {
        Row r = needWalk(s, n, 0);
        need(n <= 60 && wrongIn(r, n) == -1, -6);
        now = behindWalk.copy();
        return now.here;
    }

    private int fits(int s) {
        Row r = needRow(s, 0);
        need(r.v.length >= now.people.size(), -5);
        int bits = 0;
        for (int rule = 0; rule < 4; rule++) {
            boolean so = true;
            for (int p = 0; p < now.people.size(); p++) so &= by(rule, 10 + p) == (int) r.v[p];
            if (so) bits |= 1 << rule;
        }
        return bits;
    }

    private int enough() {
        for (int b = 0; b <= 9; b++) {
            State st = now.copy();
            st.biscuits = b;
            if (last(course(st, 3)).end()) return b;
        }
        return -1;
    }

    private int leastWorn(int rule) {
        need(rule >= 0 && rule <= 3, -16);
        for (int w = 1; w <= 99; w++) {
            State st = now.copy();
            st.worn = w;
            if (last(course(st, rule)).end()) return w;
        }
        return -1;
    }

    // ---- in truth

    private int summer(int n) {
        need(n >= 1 && n <= 60, -6);
        int from = now.here;
        for (int i = 0; i < n; i++) {
            List<Integer> may = new ArrayList<>();
            for (int x = 0; x < 10; x++) if (now.may(x)) may.add(x);
            if (!may.isEmpty()) {
                now.seed = now.seed * 1103515245 + 12345;
                int draw = ((now.seed >> 16) & 0xffff) % may.size();
                now = now.after(may.get(draw));
            }
        }
        return now.here - from;
    }

    private int day() {
        int here = now.here;
        now.here = 0;
        now.minutes = 0;
        now.on = 0;
        now.legs = now.most;
        now.tired.replaceAll(t -> 0);
        return here;
    }

    private int act(int p, int move, int x) {
        trace.clear();
        if (!there(p) || move < 0 || move > 2) return 0;
        Person q = now.people.get(p);
        return move == 0 ? q.lifts(x) : move == 1 ? q.steps(x) : q.rests(x);
    }

    private int restore() {
        need(image != null, -6);
        now = image.copy();
        for (int s = 0; s < 8; s++) {
            if (shelves[s] instanceof Integer && !there((Integer) shelves[s])) shelves[s] = null;
        }
        return now.people.size();
    }

    private int status(int what) {
        if (what >= 11 && what <= 17) return refused[what - 10];
        switch (what) {
            case 0: return now.people.size();
            case 1: return now.slopes.size();
            case 2: return now.here;
            case 3: return now.minutes;
            case 4: return now.legs;
            case 5: return now.on;
            case 6: return now.most;
            case 7: return now.nap;
            case 8: return now.worn;
            case 9: return now.biscuits;
            case 10: return now.races;
            case 18: return now.seed;
            case 19: return trace.size();
            case 20: return now.on >= now.nap ? 1 : 0;
            default: return -1;
        }
    }
}
