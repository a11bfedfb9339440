import java.util.ArrayList;
import java.util.List;
import java.util.regex.Matcher;
import java.util.regex.Pattern;

/** The document once more, written another way (kinds are classes, facts are rows of booleans), to compare with. */
final class Model {
    static final int BEYOND = -1000000001;
    static final int FULL = -1000000002;
    static final int KIND = -1000000003;
    static final int NONE = -1000000004;
    static final int STATE = -1000000005;
    static final int MISSING = -1000000006;
    static final int SIZE = -1000000007;

    static class Person {
        int kind;
        boolean[] knows = new boolean[8];
        boolean[] says = new boolean[8];
        int sure = 3;

        static Person of(int kind) {
            Person p;
            switch (kind) {
                case 0: p = new Person(); break;
                case 1: p = new Plumber(); break;
                case 2: p = new Wife(); break;
                case 3: p = new Child(); break;
                case 4: p = new Expert(); break;
                default: p = new Nurse(); break;
            }
            p.kind = kind;
            return p;
        }

        Person likeThis(int otherKind) {
            Person p = of(otherKind);
            p.knows = knows.clone();
            p.says = says.clone();
            p.sure = sure;
            return p;
        }

        boolean right(Room r, int f) {
            return r.truth[f] ? says[f] : !says[f];
        }

        boolean lies(Room r, int f) {
            return !right(r, f) && knows[f];
        }

        boolean lucky(Room r, int f) {
            return right(r, f) && !knows[f];
        }

        boolean wrong(Room r, int f) {
            return !right(r, f) && !knows[f];
        }

        int heats(Room r, int f) {
            if (lies(r, f)) {
                return 1 + sure;
            }
            return lucky(r, f) ? sure / 2 : 0;
        }

        boolean learns(Room r, int f, boolean boiled) {
            return knows[f];
        }

        int doubts() {
            return 1;
        }
    }

    static class Plumber extends Person {
        @Override int heats(Room r, int f) {
            return super.heats(r, f) + (lies(r, f) && f < 4 ? 5 : 0);
        }

        @Override int doubts() {
            return super.doubts() + 1;
        }
    }

    static class Wife extends Person {
        @Override int heats(Room r, int f) {
            int more = 0;
            for (Person p : r.people) {
                if (p != this && p instanceof Plumber && p.lies(r, f)) {
                    more = 1;
                }
            }
            return super.heats(r, f) + more;
        }

        @Override boolean learns(Room r, int f, boolean boiled) {
            return super.learns(r, f, boiled) || boiled;
        }
    }

    static class Child extends Person {
        @Override int heats(Room r, int f) {
            return -sure;
        }

        @Override int doubts() {
            return 0;
        }
    }

    static class Expert extends Plumber {
        @Override int heats(Room r, int f) {
            return super.heats(r, f) / 2 + (wrong(r, f) ? 1 : 0);
        }

        @Override boolean learns(Room r, int f, boolean boiled) {
            return super.learns(r, f, boiled) || lucky(r, f);
        }

        @Override int doubts() {
            return 0;
        }
    }

    static class Nurse extends Wife {
        @Override int heats(Room r, int f) {
            return r.heat > 15 ? 0 : super.heats(r, f);
        }
    }

    static final class Room {
        boolean[] truth = new boolean[8];
        int minute = 0;
        int heat = 0;
        int water = 40;
        int tea = 0;
        int boilsAt = 20;
        List<Person> people = new ArrayList<>();

        Room twin() {
            Room r = new Room();
            r.truth = truth.clone();
            r.minute = minute;
            r.heat = heat;
            r.water = water;
            r.tea = tea;
            r.boilsAt = boilsAt;
            for (Person p : people) {
                r.people.add(p.likeThis(p.kind));
            }
            return r;
        }

        Room later(int n) {
            Room r = twin();
            for (int i = 0; i < n; i++) {
                r.minuteGoes();
            }
            return r;
        }

        boolean answer(Person p, int f) {
            heat += p.heats(this, f);
            if (heat < 0) {
                heat = 0;
            }
            if (heat > 99) {
                heat = 99;
            }
            boolean boiled = heat >= boilsAt && water >= 4;
            if (boiled) {
                tea += 2;
                if (tea > 9999) {
                    tea = 9999;
                }
                water -= 4;
                heat = heat / 2;
                p.sure -= p.doubts();
                if (p.sure < 0) {
                    p.sure = 0;
                }
            }
            p.knows[f] = p.learns(this, f, boiled);
            return boiled;
        }

        boolean minuteGoes() {
            boolean boiled = false;
            if (people.isEmpty()) {
                if (heat > 0) {
                    heat--;
                }
            } else {
                boiled = answer(people.get(minute % people.size()), minute / people.size() % 8);
            }
            minute++;
            return boiled;
        }
    }

    private Room room = new Room();
    private Room image = null;
    private String tape = "";
    private final long[][] sheets = new long[4][];
    private final int[] bits = new int[4];
    private final int[] findings = new int[7];

    private int found(int finding) {
        findings[-1000000001 - finding]++;
        return finding;
    }

    private static int number(boolean[] set) {
        int n = 0;
        for (int f = 0; f < 8; f++) {
            n += set[f] ? 1 << f : 0;
        }
        return n;
    }

    private static boolean[] facts(int number) {
        boolean[] set = new boolean[8];
        for (int f = 0; f < 8; f++) {
            set[f] = (number & 1 << f) != 0;
        }
        return set;
    }

    private boolean noWitness(int w) {
        return w < 0 || w >= room.people.size();
    }

    int truth(int set) {
        if (set < 0 || set > 255) {
            return found(BEYOND);
        }
        int was = number(room.truth);
        room.truth = facts(set);
        return was;
    }

    int kettle(int what, int v) {
        if (what < 0 || what > 2 || v < 0 || v > 99 || what == 2 && v == 0) {
            return found(BEYOND);
        }
        int was = new int[] {room.heat, room.water, room.boilsAt}[what];
        if (what == 0) {
            room.heat = v;
        }
        if (what == 1) {
            room.water = v;
        }
        if (what == 2) {
            room.boilsAt = v;
        }
        return was;
    }

    int witness(int kind) {
        if (kind < 0 || kind > 5) {
            return found(BEYOND);
        }
        if (room.people.size() == 8) {
            return found(FULL);
        }
        room.people.add(Person.of(kind));
        return room.people.size() - 1;
    }

    int of(int w, int what) {
        if (noWitness(w) || what < 0 || what > 7) {
            return found(BEYOND);
        }
        Person p = room.people.get(w);
        boolean[] lies = new boolean[8];
        boolean[] lucky = new boolean[8];
        boolean[] wrong = new boolean[8];
        for (int f = 0; f < 8; f++) {
            lies[f] = p.lies(room, f);
            lucky[f] = p.lucky(room, f);
            wrong[f] = p.wrong(room, f);
        }
        return new int[] {p.kind, number(p.knows), number(p.says), p.sure, number(lies), number(lucky), number(wrong), p.doubts()}[what];
    }

    int set(int w, int what, int v) {
        if (noWitness(w) || what < 1 || what > 3 || v < 0 || v > (what == 3 ? 9 : 255)) {
            return found(BEYOND);
        }
        int was = of(w, what);
        Person p = room.people.get(w);
        if (what == 1) {
            p.knows = facts(v);
        }
        if (what == 2) {
            p.says = facts(v);
        }
        if (what == 3) {
            p.sure = v;
        }
        return was;
    }

    int turn(int w, int kind) {
        if (noWitness(w) || kind < 0 || kind > 5) {
            return found(BEYOND);
        }
        Person was = room.people.get(w);
        room.people.set(w, was.likeThis(kind));
        return was.kind;
    }

    int as(int w, int kind) {
        if (noWitness(w) || kind < 0 || kind > 5) {
            return found(BEYOND);
        }
        Person p = room.people.get(w);
        boolean is = Person.of(kind).getClass().isInstance(p);
        return is ? p.sure : found(KIND);
    }

    int heats(int w, int f) {
        if (noWitness(w) || f < 0 || f > 7) {
            return found(BEYOND);
        }
        return 100 + room.people.get(w).heats(room, f);
    }

    int ask(int w, int f) {
        if (noWitness(w) || f < 0 || f > 7) {
            return found(BEYOND);
        }
        return room.answer(room.people.get(w), f) ? 1 : 0;
    }

    private static void exchange(Room r, int a, int b) {
        Person p = r.people.get(a);
        r.people.set(a, r.people.get(b));
        r.people.set(b, p);
    }

    int swap(int a, int b) {
        if (noWitness(a) || noWitness(b) || a == b) {
            return found(BEYOND);
        }
        exchange(room, a, b);
        return 1;
    }

    int minutes(int n) {
        if (n < 1 || n > 100) {
            return found(BEYOND);
        }
        if (room.minute + n > 99999) {
            return found(STATE);
        }
        room = room.later(n);
        return room.tea;
    }

    int now(int what) {
        int people = room.people.size();
        switch (what) {
            case 0: return room.minute;
            case 1: return room.heat;
            case 2: return room.water;
            case 3: return room.tea;
            case 4: return room.boilsAt;
            case 5: return people == 0 ? -1 : room.minute % people;
            case 6: return people == 0 ? 0 : room.minute / people % 8;
            case 7: return number(room.truth);
            default: return found(BEYOND);
        }
    }

    int on(int n, int what) {
        if (n < 0 || n > 200 || what < 0 || what > 2) {
            return found(BEYOND);
        }
        Room r = room.later(n);
        return new int[] {r.heat, r.water, r.tea}[what];
    }

    int then(int w, int n, int what) {
        if (noWitness(w) || n < 0 || n > 200 || what < 0 || what > 1) {
            return found(BEYOND);
        }
        Person p = room.later(n).people.get(w);
        return what == 0 ? p.sure : number(p.knows);
    }

    int boils() {
        Room r = room.twin();
        for (int n = 1; n <= 200; n++) {
            if (r.minuteGoes()) {
                return n;
            }
        }
        return found(NONE);
    }

    int doubts(int w) {
        if (noWitness(w)) {
            return found(BEYOND);
        }
        for (int n = 0; n <= 200; n++) {
            if (room.later(n).people.get(w).sure == 0) {
                return n;
            }
        }
        return found(NONE);
    }

    private static int best(long[] values) {
        int best = 0;
        for (int i = 1; i < values.length; i++) {
            if (values[i] > values[best]) {
                best = i;
            }
        }
        return best;
    }

    int worst(int w) {
        if (noWitness(w)) {
            return found(BEYOND);
        }
        long[] heat = new long[8];
        for (int f = 0; f < 8; f++) {
            Room r = room.twin();
            r.answer(r.people.get(w), f);
            heat[f] = r.heat;
        }
        return best(heat);
    }

    int turns(int n) {
        if (n < 1 || n > 60) {
            return found(BEYOND);
        }
        long[] tea = new long[100];
        int asItIs = room.later(n).tea;
        for (int a = 0; a < room.people.size(); a++) {
            for (int b = a + 1; b < room.people.size(); b++) {
                Room r = room.twin();
                exchange(r, a, b);
                tea[10 * a + b] = r.later(n).tea;
            }
        }
        int best = best(tea);
        return tea[best] > asItIs ? best : found(NONE);
    }

    int sure(int w, int n) {
        if (noWitness(w) || n < 1 || n > 60) {
            return found(BEYOND);
        }
        int greatest = found(NONE);
        for (int v = 0; v <= 9; v++) {
            Room r = room.twin();
            r.people.get(w).sure = v;
            if (r.later(n).tea <= room.tea) {
                greatest = v;
            }
        }
        if (greatest >= 0) {
            findings[3]--;
        }
        return greatest;
    }

    int water(int n, int v) {
        if (n < 1 || n > 60 || v < 0 || v > 9999) {
            return found(BEYOND);
        }
        for (int w = 0; w <= 99; w++) {
            Room r = room.twin();
            r.water = w;
            if (r.later(n).tea >= v) {
                return w;
            }
        }
        return found(NONE);
    }

    int kind(int w, int n) {
        if (noWitness(w) || n < 1 || n > 60) {
            return found(BEYOND);
        }
        long[] less = new long[6];
        for (int k = 0; k < 6; k++) {
            Room r = room.twin();
            r.people.set(w, r.people.get(w).likeThis(k));
            less[k] = -r.later(n).tea;
        }
        return best(less);
    }

    int says(int w, int n) {
        if (noWitness(w) || n < 1 || n > 20) {
            return found(BEYOND);
        }
        long[] less = new long[256];
        for (int set = 0; set < 256; set++) {
            Room r = room.twin();
            r.people.get(w).says = facts(set);
            less[set] = -r.later(n).tea;
        }
        return best(less);
    }

    int fact(int n) {
        if (n < 1 || n > 60) {
            return found(BEYOND);
        }
        long[] tea = new long[8];
        for (int f = 0; f < 8; f++) {
            Room r = room.twin();
            r.truth[f] = !r.truth[f];
            tea[f] = r.later(n).tea;
        }
        return best(tea);
    }

    int feed(int bytes, int n) {
        if (n < 1 || n > 4) {
            return found(BEYOND);
        }
        if (tape.length() + n > 120) {
            return found(FULL);
        }
        String all = "" + (char) (bytes >>> 24) + (char) (bytes >>> 16 & 255) + (char) (bytes >>> 8 & 255) + (char) (bytes & 255);
        tape += all.substring(4 - n);
        return tape.length();
    }

    int wipe() {
        int had = tape.length();
        tape = "";
        return had;
    }

    int inquest() {
        Room r = room.twin();
        int items = new Text(tape, r).items();
        tape = "";
        if (items > 0) {
            room = r;
        }
        return items;
    }

    /** The tokens as a list first, each with its place; then by steps, each of which says what may stand there. */
    private static final class Text {
        private static final Pattern TOKEN = Pattern.compile("[a-z]+|[0-9]+|[^ ]", Pattern.DOTALL);
        private static final List<String> NAMES = List.of("witness", "plumber", "wife", "child", "expert", "nurse");
        private final List<String> tokens = new ArrayList<>();
        private final List<Integer> places = new ArrayList<>();
        private final Room room;
        private int at = 0;

        Text(String tape, Room room) {
            this.room = room;
            Matcher m = TOKEN.matcher(tape);
            while (m.find()) {
                tokens.add(m.group());
                places.add(m.start());
            }
            tokens.add("");
            places.add(tape.length());
        }

        private boolean see(String word) {
            if (tokens.get(at).equals(word)) {
                at++;
                return true;
            }
            return false;
        }

        private int number(int most) {
            String digits = tokens.get(at);
            if (!digits.matches("0*[0-9]{1,3}") || Integer.parseInt(digits) > most) {
                return -1;
            }
            at++;
            return Integer.parseInt(digits);
        }

        private boolean factList(boolean[] set) {
            int fact = number(7);
            if (fact < 0) {
                return false;
            }
            for (int i = 0; i < 4 && fact >= 0; i++) {
                set[fact] = true;
                fact = i < 3 ? number(7) : -1;
            }
            return true;
        }

        private boolean item() {
            int kind = NAMES.indexOf(tokens.get(at));
            if (kind >= 0) {
                return room.people.size() < 8 && person(kind);
            }
            if (see("water")) {
                int v = number(99);
                room.water = v;
                return v >= 0;
            }
            boolean is = tokens.get(at).equals("true");
            if (!see("true") && !see("false")) {
                return false;
            }
            int f = number(7);
            if (f >= 0) {
                room.truth[f] = is;
            }
            return f >= 0;
        }

        private boolean person(int kind) {
            Person p = Person.of(kind);
            room.people.add(p);
            at++;
            if (see("sure")) {
                p.sure = number(9);
                if (p.sure < 0) {
                    return false;
                }
            }
            if (see("knows") && !factList(p.knows)) {
                return false;
            }
            return !see("says") || factList(p.says);
        }

        int items() {
            int items = 0;
            do {
                if (!item()) {
                    return -1 - places.get(at);
                }
                items++;
            } while (see(";"));
            return tokens.get(at).isEmpty() ? items : -1 - places.get(at);
        }
    }

    private static boolean noSheet(int s) {
        return s < 0 || s > 3;
    }

    int sheet(int s, int newBits, int n) {
        if (noSheet(s) || newBits != 0 && newBits != 8 && newBits != 16 && newBits != 64) {
            return found(BEYOND);
        }
        if (n < 0) {
            return found(SIZE);
        }
        if (n > 40) {
            return found(BEYOND);
        }
        sheets[s] = newBits == 0 ? null : new long[n];
        bits[s] = newBits;
        return newBits == 0 ? 0 : n;
    }

    long write(int s, int i, long v) {
        if (noSheet(s)) {
            return found(BEYOND);
        }
        if (sheets[s] == null) {
            return found(MISSING);
        }
        if (i < 0 || i >= sheets[s].length) {
            return found(BEYOND);
        }
        long was = sheets[s][i];
        int off = 64 - bits[s];
        sheets[s][i] = v << off >> off;
        return was;
    }

    int copy(int s, int from, int t, int to, int n) {
        if (noSheet(s) || noSheet(t)) {
            return found(BEYOND);
        }
        if (sheets[s] == null || sheets[t] == null) {
            return found(MISSING);
        }
        if (bits[s] != bits[t]) {
            return found(KIND);
        }
        if (from < 0 || to < 0 || n < 0 || (long) from + n > sheets[s].length || (long) to + n > sheets[t].length) {
            return found(BEYOND);
        }
        long[] were = sheets[s].clone();
        for (int i = 0; i < n; i++) {
            sheets[t][to + i] = were[from + i];
        }
        return n;
    }

    int lays(int s) {
        if (noSheet(s)) {
            return found(BEYOND);
        }
        if (sheets[s] == null) {
            return found(MISSING);
        }
        int came = 0;
        for (int i = 0; i < sheets[s].length; i++) {
            long v = sheets[s][i];
            if (!noWitness(i) && v >= 0 && v < 10) {
                room.people.get(i).sure = (int) v;
                came++;
            }
        }
        return came;
    }

    int book(int s) {
        if (noSheet(s)) {
            return found(BEYOND);
        }
        if (sheets[s] == null) {
            return found(MISSING);
        }
        for (int i = 0; i < sheets[s].length; i++) {
            sheets[s][i] = room.later(i).heat;
        }
        return sheets[s].length;
    }

    int read(int s, int w) {
        if (noSheet(s)) {
            return found(BEYOND);
        }
        if (sheets[s] == null) {
            return found(MISSING);
        }
        if (noWitness(w)) {
            return found(BEYOND);
        }
        if (sheets[s].length > 12) {
            return found(SIZE);
        }
        int pairs = 0;
        for (int pair = 0; pair < 6 * 256; pair++) {
            Room r = room.twin();
            Person p = r.people.get(w).likeThis(pair / 256);
            p.knows = facts(pair % 256);
            r.people.set(w, p);
            boolean just = true;
            for (int i = 0; i < sheets[s].length; i++) {
                just = just && sheets[s][i] == r.heat;
                r.minuteGoes();
            }
            pairs += just ? 1 : 0;
        }
        return pairs;
    }

    int image() {
        image = room.twin();
        return 1;
    }

    int undo() {
        if (image == null) {
            return found(NONE);
        }
        room = image.twin();
        return room.people.size();
    }

    int tear() {
        int was = image == null ? 0 : 1;
        image = null;
        return was;
    }

    int count(int what) {
        if (what < 0 || what > 3) {
            return found(BEYOND);
        }
        int lies = 0;
        int sure = 0;
        for (int w = 0; w < room.people.size(); w++) {
            lies += Integer.bitCount(of(w, 4));
            sure += room.people.get(w).sure;
        }
        return new int[] {room.people.size(), tape.length(), lies, sure}[what];
    }

    int status(int which) {
        if (which < -1 || which > 6) {
            return found(BEYOND);
        }
        int all = 0;
        for (int f : findings) {
            all += f;
        }
        return which < 0 ? all : findings[which];
    }
}
