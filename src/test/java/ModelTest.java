import java.util.ArrayList;
import java.util.List;
import java.util.Random;

/** Long runs of calls, the same ones every time, on the class and on the model: each answer must be the same. */
public final class ModelTest {
    private static final int RUNS = 500;
    private static final int CALLS = 512;
    private static final int[] ODD = {-1, 8, 9, 10, 12, 20, 21, 40, 41, 60, 61, 64, 99, 100, 101, 200, 201, 255, 256, 9999, 10000,
        Integer.MIN_VALUE, Integer.MAX_VALUE};
    private static final String[] WORDS = {"witness", "plumber", "wife", "child", "expert", "nurse", "true", "false", "water", "sure",
        "knows", "says", ";", "?", "wive", "0", "1", "2", "3", "7", "8", "9", "10", "99", "100", "1000", "007", " ", "Wife"};
    private static final String[] NAMES = {"witness", "plumber", "wife", "child", "expert", "nurse"};
    private static final Check CHECK = new Check();

    private final Random random;
    private final KettleInquest x = new KettleInquest();
    private final Model model = new Model();
    private final List<String> calls = new ArrayList<>();

    private ModelTest(long seed) {
        random = new Random(seed);
    }

    public static void main(String[] args) {
        int runs = args.length > 0 ? Integer.parseInt(args[0]) : RUNS;
        for (int run = 0; run < runs; run++) {
            if (!new ModelTest(run).sameAnswers(run)) {
                break;
            }
        }
        CHECK.finish("ModelTest");
    }

    private boolean sameAnswers(int run) {
        int heavy = random.nextInt(20);
        while (calls.size() < CALLS) {
            if (!oneCall(random.nextInt(100) < heavy)) {
                System.out.println("run " + run + ": " + String.join(" ", calls));
                return false;
            }
        }
        return true;
    }

    private boolean same(String call, long got, long want) {
        calls.add(call + "=" + got);
        CHECK.due(call, want, got);
        return got == want;
    }

    /** Mostly what may be, now and then an odd number. */
    private int upTo(int most) {
        return random.nextInt(40) == 0 ? ODD[random.nextInt(ODD.length)] : random.nextInt(most + 1);
    }

    private int someone() {
        return upTo(Math.max(0, model.count(0) - 1));
    }

    private int from1(int most) {
        return random.nextInt(3) == 0 ? upTo(most) : 1 + random.nextInt(most);
    }

    private boolean oneCall(boolean heavy) {
        if (heavy) {
            return bestCall(random.nextInt(10));
        }
        int which = random.nextInt(34);
        if (which < 12) {
            return peopleCall(which);
        }
        return which < 22 ? timeCall(which) : otherCall(which);
    }

    private boolean peopleCall(int which) {
        int a = someone();
        int b = upTo(7);
        int c = upTo(255);
        switch (which) {
            case 0: return same("truth " + c, x.truth(c), model.truth(c));
            case 1:
                c = upTo(99);
                b = upTo(2);
                return same("kettle " + b + " " + c, x.kettle(b, c), model.kettle(b, c));
            case 2:
                if (random.nextInt(4) != 0) {
                    return true;
                }
                b = upTo(5);
                return same("witness " + b, x.witness(b), model.witness(b));
            case 3: return same("of " + a + " " + b, x.of(a, b), model.of(a, b));
            case 4:
            case 5:
                b = upTo(3);
                c = b == 3 ? upTo(9) : c;
                return same("set " + a + " " + b + " " + c, x.set(a, b, c), model.set(a, b, c));
            case 6:
                b = upTo(5);
                return same("turn " + a + " " + b, x.turn(a, b), model.turn(a, b));
            case 7:
                b = upTo(5);
                return same("as " + a + " " + b, x.as(a, b), model.as(a, b));
            case 8: return same("heats " + a + " " + b, x.heats(a, b), model.heats(a, b));
            case 9:
            case 10: return same("ask " + a + " " + b, x.ask(a, b), model.ask(a, b));
            default:
                b = someone();
                return same("swap " + a + " " + b, x.swap(a, b), model.swap(a, b));
        }
    }

    private boolean timeCall(int which) {
        int a = someone();
        int n = upTo(200);
        int b = upTo(2);
        switch (which) {
            case 12:
            case 13:
                n = from1(random.nextBoolean() ? 9 : 100);
                return same("minutes " + n, x.minutes(n), model.minutes(n));
            case 14:
            case 15:
                b = upTo(7);
                return same("now " + b, x.now(b), model.now(b));
            case 16:
            case 17: return same("on " + n + " " + b, x.on(n, b), model.on(n, b));
            case 18:
                b = upTo(1);
                return same("then " + a + " " + n + " " + b, x.then(a, n, b), model.then(a, n, b));
            case 19: return same("boils", x.boils(), model.boils());
            case 20: return same("doubts " + a, x.doubts(a), model.doubts(a));
            default: return same("worst " + a, x.worst(a), model.worst(a));
        }
    }

    private boolean bestCall(int which) {
        int a = someone();
        int n = from1(60);
        int v = random.nextBoolean() ? upTo(50) : Math.min(9999, model.now(3) + random.nextInt(30));
        int s = upTo(3);
        switch (which) {
            case 0:
            case 1: return same("turns " + n, x.turns(n), model.turns(n));
            case 2: return same("sure " + a + " " + n, x.sure(a, n), model.sure(a, n));
            case 3: return same("water " + n + " " + v, x.water(n, v), model.water(n, v));
            case 4: return same("kind " + a + " " + n, x.kind(a, n), model.kind(a, n));
            case 5:
                n = from1(20);
                return same("says " + a + " " + n, x.says(a, n), model.says(a, n));
            case 6: return same("fact " + n, x.fact(n), model.fact(n));
            default: return readCall(s, a, n);
        }
    }

    private boolean readCall(int s, int a, int n) {
        int few = n % 14;
        boolean is = same("sheet " + s + " 16 " + few, x.sheet(s, 16, few), model.sheet(s, 16, few));
        is = is && same("book " + s, x.book(s), model.book(s));
        if (random.nextInt(3) == 0) {
            int at = upTo(3);
            int v = upTo(30);
            is = is && same("write " + s + " " + at + " " + v, x.write(s, at, v), model.write(s, at, v));
        }
        if (random.nextInt(3) == 0) {
            int b = upTo(7);
            is = is && same("set " + a + " 1 " + b, x.set(a, 1, b), model.set(a, 1, b));
        }
        return is && same("read " + s + " " + a, x.read(s, a), model.read(s, a));
    }

    private boolean otherCall(int which) {
        int s = upTo(3);
        int t = upTo(3);
        int n = random.nextInt(60) == 0 ? upTo(9) : random.nextInt(41);
        switch (which) {
            case 22:
                t = random.nextInt(30) == 0 ? upTo(70) : new int[] {0, 8, 8, 8, 16, 64}[random.nextInt(6)];
                return same("sheet " + s + " " + t + " " + n, x.sheet(s, t, n), model.sheet(s, t, n));
            case 23:
            case 24:
                long v = random.nextBoolean() ? upTo(12) : random.nextLong();
                return same("write " + s + " " + n + " " + v, x.write(s, n, v), model.write(s, n, v));
            case 25:
                int from = upTo(20);
                int to = upTo(20);
                n = upTo(10);
                return same("copy " + s + " " + from + " " + t + " " + to + " " + n, x.copy(s, from, t, to, n),
                    model.copy(s, from, t, to, n));
            case 26: return same("lays " + s, x.lays(s), model.lays(s));
            case 27: return same("book " + s, x.book(s), model.book(s));
            case 28:
                return random.nextInt(3) == 0 ? same("image", x.image(), model.image()) : same("undo", x.undo(), model.undo());
            case 29: return random.nextInt(6) != 0 || same("tear", x.tear(), model.tear());
            case 30:
                n = upTo(3);
                return same("count " + n, x.count(n), model.count(n));
            case 31:
                n = upTo(7) - 1;
                return same("status " + n, x.status(n), model.status(n));
            case 32: return random.nextInt(6) != 0 || same("wipe", x.wipe(), model.wipe());
            default: return random.nextInt(3) != 0 || textCalls();
        }
    }

    private boolean textCalls() {
        String text = random.nextInt(3) == 0 ? anyText() : fitText();
        boolean is = true;
        int at = 0;
        while (is && at < text.length()) {
            int n = Math.min(text.length() - at, random.nextInt(40) == 0 ? upTo(4) : 4);
            int bytes = random.nextInt();
            for (int i = 0; i < n && n <= 4; i++) {
                bytes = bytes << 8 | text.charAt(at + i);
            }
            is = same("feed " + bytes + " " + n, x.feed(bytes, n), model.feed(bytes, n));
            at += n >= 1 && n <= 4 ? n : 1;
        }
        return is && same("inquest", x.inquest(), model.inquest());
    }

    private String anyText() {
        StringBuilder text = new StringBuilder();
        int words = random.nextInt(12);
        for (int i = 0; i < words; i++) {
            text.append(WORDS[random.nextInt(WORDS.length)]).append(random.nextInt(5) == 0 ? "" : " ");
        }
        return text.toString();
    }

    private void someFacts(StringBuilder text, String word) {
        if (random.nextBoolean()) {
            text.append(' ').append(word);
            int facts = random.nextInt(20) == 0 ? random.nextInt(6) : 1 + random.nextInt(4);
            for (int i = 0; i < facts; i++) {
                text.append(' ').append(random.nextInt(30) == 0 ? 8 : random.nextInt(8));
            }
        }
    }

    private String fitText() {
        StringBuilder text = new StringBuilder();
        int items = 1 + random.nextInt(5);
        for (int i = 0; i < items; i++) {
            text.append(i == 0 ? "" : random.nextBoolean() ? ";" : " ; ");
            int which = random.nextInt(6);
            if (which == 0) {
                text.append("water ").append(random.nextInt(random.nextInt(6) == 0 ? 120 : 100));
            } else if (which < 3) {
                text.append(random.nextBoolean() ? "true " : "false ").append(random.nextInt(8));
            } else {
                text.append(NAMES[random.nextInt(6)]);
                text.append(random.nextBoolean() ? "" : " sure " + random.nextInt(random.nextInt(9) == 0 ? 12 : 10));
                someFacts(text, "knows");
                someFacts(text, "says");
            }
        }
        if (random.nextInt(4) == 0) {
            text.setCharAt(random.nextInt(text.length()), (char) random.nextInt(256));
        }
        return text.toString();
    }
}
