import java.util.function.IntSupplier;

/** What the tests share: an answer that is not as due is told and counted, and end() fails then. */
class Check {
    static int wrong = 0;
    /** The sentence or promise that is looked at. */
    static String about = "";

    static void due(String what, long got, long want) {
        if (got != want) {
            wrong++;
            System.out.println(about + ": " + what + " answered " + got + ", due is " + want);
        }
    }

    static void dueThrow(String what, Class<? extends RuntimeException> want, IntSupplier call) {
        String got;
        try {
            got = "answered " + call.getAsInt();
        } catch (RuntimeException e) {
            if (e.getClass() == want) {
                return;
            }
            got = "threw " + e;
        }
        wrong++;
        System.out.println(about + ": " + what + " " + got + ", due is " + want.getSimpleName());
    }

    static void outside(String what, IntSupplier call) {
        dueThrow(what, IndexOutOfBoundsException.class, call);
    }

    static void illegal(String what, IntSupplier call) {
        dueThrow(what, IllegalArgumentException.class, call);
    }

    static void end() {
        if (wrong > 0) {
            System.out.println(wrong + " answers are not as due");
            System.exit(1);
        }
    }

    // ---------------------------------------------------------------- texts

    static long packed(String octets) {
        long all = 0;
        for (int i = octets.length() - 1; i >= 0; i--) {
            all = all << 8 | octets.charAt(i) & 255;
        }
        return all;
    }

    static LazyStrict feed(LazyStrict x, String text) {
        for (int at = 0; at < text.length(); at += 8) {
            int n = Math.min(8, text.length() - at);
            x.feed(n, packed(text.substring(at, at + n)));
        }
        return x;
    }

    static LazyStrict fed(String text) {
        return feed(new LazyStrict(), text);
    }

    /** A text that must have no fault. */
    static LazyStrict compiled(String text) {
        LazyStrict x = fed(text);
        if (x.compile() < 0) {
            wrong++;
            System.out.println(about + ": fault " + -x.compile() + " at " + x.place() + " in " + text);
        }
        return x;
    }

    static void dueFault(String text, int number, int place) {
        LazyStrict x = fed(text);
        due("compile() of " + text, x.compile(), -number);
        due("place() of " + text, x.place(), place);
        due("functions() of " + text, x.functions(), 0);
        due("rounds() of " + text, x.rounds(), 0);
    }

    static void dueFine(String text, int functions) {
        LazyStrict x = fed(text);
        due("compile() of " + text, x.compile(), functions);
        due("place() of " + text, x.place(), LazyStrict.NONE);
        due("functions() of " + text, x.functions(), functions);
    }

    /** The ^ is no part of the text: it stands at the place of the fault. */
    static void dueFaultAt(int number, String marked) {
        int place = marked.indexOf('^');
        dueFault(marked.substring(0, place) + marked.substring(place + 1), number, place);
    }

    // ---------------------------------------------------------------- answers

    static void dueTold(LazyStrict x, String what, int... want) {
        for (int i = 0; i < want.length; i++) {
            due(what + ", told(" + i + ")", x.told(i), want[i]);
        }
    }

    static void dueValues(LazyStrict x, int f, String want) {
        due("cases of function " + f, x.function(f, 2), want.length());
        for (int i = 0; i < want.length(); i++) {
            due("value(" + f + ", " + i + ")", x.value(f, i), want.charAt(i) - '0');
        }
    }

    static int run(LazyStrict x, int f, int steps, boolean quick, int... arguments) {
        for (int v : arguments) {
            x.argument(v);
        }
        return x.run(f, steps, quick);
    }

    /** The number that a function of a text ends with. */
    static int numbered(String text, int f, int... arguments) {
        LazyStrict x = compiled(text);
        due("run of " + text, run(x, f, 50000, false, arguments), 1);
        return x.told(5);
    }

    /** Nothing is compiled, nothing was run. */
    static void dueNothing(LazyStrict x) {
        due("functions()", x.functions(), 0);
        due("rounds()", x.rounds(), 0);
        due("place()", x.place(), LazyStrict.NONE);
        due("isStrict(0)", x.isStrict(0), LazyStrict.NONE);
        dueTold(x, "nothing was run", 0, 0, 0, 0, 0, 0, 0, 0, 0, 0);
        outside("element(0)", () -> x.element(0));
        outside("function(0, 0)", () -> x.function(0, 0));
        outside("parameter(0, 0, 0)", () -> x.parameter(0, 0, 0));
        outside("value(0, 0)", () -> x.value(0, 0));
        outside("run(0, 10, false)", () -> x.run(0, 10, false));
    }
}
