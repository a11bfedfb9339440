/** Counts the answers that are not as due; shared by the project's tests. */
final class Check {
    static final long BEYOND = -1000000001L;
    static final long FULL = -1000000002L;
    static final long KIND = -1000000003L;
    static final long NONE = -1000000004L;
    static final long STATE = -1000000005L;
    static final long MISSING = -1000000006L;
    static final long SIZE = -1000000007L;

    private int asked = 0;
    private int wrong = 0;

    void due(String call, long want, long got) {
        asked++;
        if (got != want) {
            wrong++;
            System.out.println(call + " answered " + got + ", due is " + want);
        }
    }

    void holds(String what, boolean is) {
        due(what, 1, is ? 1 : 0);
    }

    /** All that can be seen of an object without changing it (but the sheets), to show that a finding changed nothing. */
    static String seen(KettleInquest x) {
        StringBuilder all = new StringBuilder();
        for (int what = 0; what < 8; what++) {
            all.append(x.now(what)).append(' ');
        }
        for (int w = 0; w < x.count(0); w++) {
            for (int what = 0; what < 4; what++) {
                all.append(x.of(w, what)).append(' ');
            }
        }
        return all.append("tape ").append(x.count(1)).toString();
    }

    static void feed(KettleInquest x, String text) {
        for (int i = 0; i < text.length(); i++) {
            x.feed(text.charAt(i), 1);
        }
    }

    static int told(KettleInquest x, String text) {
        feed(x, text);
        return x.inquest();
    }

    /** One of a kind with what it knows, says and how sure it is. */
    static int call(KettleInquest x, int kind, int knows, int says, int sure) {
        int w = x.witness(kind);
        x.set(w, 1, knows);
        x.set(w, 2, says);
        x.set(w, 3, sure);
        return w;
    }

    /** A plain witness that lies in all facts: 4 an answer at first, so it boils in minutes 5, 9, 14, 24, 34, .. */
    static KettleInquest liarAlone() {
        KettleInquest x = new KettleInquest();
        call(x, 0, 255, 255, 3);
        return x;
    }

    void finish(String name) {
        System.out.println(name + ": " + (asked - wrong) + " of " + asked + " answers are as due");
        if (wrong != 0) {
            System.exit(1);
        }
    }
}
