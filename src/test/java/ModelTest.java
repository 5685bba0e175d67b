/** All promises: long runs of mixed calls, each compared with the model, the whole state with it. */
public final class ModelTest {
    private static final int RUNS = 4000;
    private static final int CALLS = 120;

    private static long seed;
    private static int okExpansions;
    private static int wrong;

    public static void main(String[] args) {
        for (int run = 0; run < RUNS && wrong < 10; run++) {
            seed = run * 7919L + 1;
            run(run);
        }
        Check.is("runs that differ", wrong, 0);
        Check.is("runs expand often enough", okExpansions > RUNS ? 1 : 0, 1);
        Check.finish();
    }

    private static void run(int run) {
        int capacity = pick(3) == 0 ? 64 : pick(70);
        int historyCap = pick(3) == 0 ? 16 : pick(20) - 1;
        SnippetSession x = new SnippetSession(capacity, historyCap);
        Model model = new Model(capacity, historyCap);
        StringBuilder calls = new StringBuilder("new SnippetSession(" + capacity + ", " + historyCap + ")");
        for (int i = 0; i < CALLS; i++) {
            String differs = call(x, model, calls);
            String got = Check.whole(x);
            if (differs.isEmpty() && !got.equals(model.whole())) {
                differs = "state " + got + ", due is " + model.whole();
            }
            if (!differs.isEmpty()) {
                System.out.println("run " + run + ": " + calls + ": " + differs);
                wrong++;
                return;
            }
        }
    }

    /** Makes one call on both; answers how they differ, or an empty text. */
    private static String call(SnippetSession x, Model model, StringBuilder calls) {
        int kind = pick(100);
        if (kind < 35) {
            int c = pick(40) == 0 ? pick(300) - 100 : 32 + pick(95);
            return compare(calls, "typeChar(" + c + ")", x.typeChar(c), model.typeChar(c));
        } else if (kind < 47) {
            return compare(calls, "backspace()", x.backspace(), model.backspace());
        } else if (kind < 57) {
            return compare(calls, "next()", x.next(), model.next());
        } else if (kind < 66) {
            return compare(calls, "prev()", x.prev(), model.prev());
        } else if (kind < 69) {
            return compare(calls, "escape()", x.escape(), model.escape());
        } else if (kind < 75) {
            int pos = pick(30) - 3;
            return compare(calls, "setCaret(" + pos + ")", x.setCaret(pos), model.setCaret(pos));
        } else if (kind < 84) {
            return compare(calls, "undo()", x.undo(), model.undo());
        } else if (kind < 90) {
            return feedBody(x, model, calls);
        }
        int answer = x.expand();
        okExpansions += answer == SnippetSession.OK ? 1 : 0;
        return compare(calls, "expand()", answer, model.expand());
    }

    private static String compare(StringBuilder calls, String call, int got, int due) {
        calls.append(' ').append(call);
        return got == due ? "" : "answered " + got + ", due is " + due;
    }

    private static String feedBody(SnippetSession x, Model model, StringBuilder calls) {
        if (pick(8) != 0) {
            x.clearSnippet();
            model.clearSnippet();
            calls.append(" clearSnippet()");
        }
        String body = spoil(items(0, new boolean[10]));
        String differs = "";
        for (int i = 0; i < body.length() && differs.isEmpty(); i++) {
            int c = body.charAt(i);
            differs = compare(calls, "feed(" + c + ")", x.feed(c), model.feed(c));
        }
        return differs;
    }

    /** Mostly well-formed items; seen tells the stops that occurred so far. */
    private static String items(int depth, boolean[] seen) {
        StringBuilder body = new StringBuilder();
        int count = depth == 0 ? 2 + pick(9) : pick(4);
        for (int i = 0; i < count; i++) {
            int stop = pick(12) == 0 ? 0 : 1 + pick(pick(3) == 0 ? 9 : 4);
            if (pick(3) == 0) {
                body.append("aZ{:/m0\\}\\$\\\\".charAt(pick(7)));
            } else if (seen[stop] && depth == 0) {
                body.append(new String[] {"$" + stop, "${" + stop + "}", "${" + stop + "/u}", "${" + stop + "/l}",
                    "${" + stop + "/c}"}[pick(5)]);
            } else if (seen[stop]) {
                body.append("\\}");
            } else if (stop == 0 || pick(3) == 0) {
                seen[stop] = depth == 0 || stop > 0;
                body.append(depth == 0 || stop > 0 || pick(10) == 0 ? "$" + stop : "x");
            } else {
                seen[stop] = depth < 5;
                body.append(depth < 5 ? "${" + stop + ":" + items(depth + 1, seen) + "}" : "y");
            }
        }
        return body.toString();
    }

    /** Now and then damages one place, so that malformed bodies come too. */
    private static String spoil(String body) {
        if (body.isEmpty() || pick(5) != 0) {
            return body;
        }
        int place = pick(body.length());
        String instead = pick(2) == 0 ? "" : String.valueOf("$\\}{:/0123ulcx".charAt(pick(14)));
        return body.substring(0, place) + instead + body.substring(place + pick(2));
    }

    /** A fixed sequence of numbers from 0 up to bound, so that every run is the same. */
    private static int pick(int bound) {
        seed = seed * 6364136223846793005L + 1442695040888963407L;
        return (int) ((seed >>> 33) % bound);
    }
}
