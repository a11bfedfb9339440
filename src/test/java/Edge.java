import java.util.Arrays;

/** A test of its own for some words of the document that name a boundary case. */
final class Edge {
    private static final int MOST_CALLS = 512;

    final int promise;
    final String words;
    private final Check check;
    private String given = "";
    private boolean isLimited = true;

    Edge(int promise, String words, Check check) {
        this.promise = promise;
        this.words = words;
        this.check = check;
    }

    String name() {
        return "promise " + promise + ", \"" + words + "\"";
    }

    /** The calls that lead up to each of the following ones, on a new object every time. */
    Edge given(String script) {
        given = script;
        return this;
    }

    /** For what can't be seen within the calls that an object is used for. */
    Edge withMoreCalls() {
        isLimited = false;
        return this;
    }

    private Run start() {
        Run run = new Run();
        run.calls(given, check, name());
        return run;
    }

    private void end(Run run) {
        if (isLimited && run.calls() > MOST_CALLS) {
            check.holds(name() + ": at most " + MOST_CALLS + " calls", false);
        }
    }

    Edge answers(String script) {
        Run run = start();
        run.calls(script, check, name());
        end(run);
        return this;
    }

    /** Each call alone answers the finding, counts it once, and changes nothing else. */
    Edge refuses(String finding, String... calls) {
        for (String call : calls) {
            Run run = start();
            long[] due = run.statuses();
            long found = Run.number(finding);
            check.due(name() + ": " + call, found, run.call(call));
            due[0]++;
            due[(int) (-1000000000L - found)]++;
            String got = Arrays.toString(run.statuses());
            same(call + ": status", Arrays.toString(due), got);
            same(call + " changes nothing else", start().whole(), run.whole());
            end(run);
        }
        return this;
    }

    /** The next below and above a range, and int's own ends, in the place of #. */
    Edge refusesOutside(String finding, int least, int most, String... calls) {
        for (String call : calls) {
            refuses(finding, call.replace("#", "" + (least - 1)), call.replace("#", "" + (most + 1)), call.replace("#", "min"),
                call.replace("#", "max"));
        }
        return this;
    }

    /** Behind each script all is as it was, status() too. */
    Edge keeps(String... scripts) {
        for (String script : scripts) {
            leavesAsIf(script, "");
        }
        return this;
    }

    /** Behind the one script all is as it is behind the other. */
    Edge leavesAsIf(String script, String other) {
        Run run = start();
        run.calls(script, check, name());
        Run twin = start();
        twin.calls(other, check, name());
        same(script + " leaves status() as " + other, Arrays.toString(twin.statuses()), Arrays.toString(run.statuses()));
        same(script + " leaves all as " + other, twin.whole(), run.whole());
        end(run);
        return this;
    }

    private void same(String what, String due, String got) {
        check.holds(name() + ": " + what + (due.equals(got) ? "" : ": " + got + " where due is " + due), due.equals(got));
    }

    /** The bytes of a text come to the tape, four by four. */
    static String feeds(String text) {
        StringBuilder script = new StringBuilder();
        for (int at = 0; at < text.length(); at += 4) {
            int n = Math.min(4, text.length() - at);
            int bytes = 0;
            for (int i = 0; i < n; i++) {
                bytes = bytes << 8 | text.charAt(at + i);
            }
            script.append("feed ").append(bytes).append(' ').append(n).append(';');
        }
        return script.toString();
    }

    private Edge told(String text, int due) {
        Run run = start();
        run.calls(feeds(text), check, name());
        check.due(name() + ": \"" + text + "\"", due, run.call("inquest"));
        check.due(name() + ": \"" + text + "\", the tape then", 0, run.call("count 1"));
        check.due(name() + ": \"" + text + "\", no finding", 0, run.call("status -1"));
        end(run);
        return this;
    }

    Edge takes(int items, String... texts) {
        for (String text : texts) {
            told(text, items);
        }
        return this;
    }

    Edge faultAt(int place, String... texts) {
        for (String text : texts) {
            told(text, -1 - place);
        }
        return this;
    }
}
