import java.util.ArrayList;
import java.util.List;
import java.util.function.IntSupplier;

/**
 * The public face: the first and the last argument that each method takes, and the ones beside them; and
 * that a call that throws changes nothing: whatever is refused anywhere in a row of calls, those behind
 * it answer as if it had not been made.
 */
public final class CallEdgesTest extends Check {
    private static final int[] FAR = {Integer.MIN_VALUE, Integer.MIN_VALUE + 1, Integer.MAX_VALUE - 1, Integer.MAX_VALUE};
    private static final int MOST_CALLS = 512;
    private static final String FIRST = "upto (a : int) (b : int) : list = if b < a then nil else cons a (upto (a + 1) b);"
        + "eight (a:int)(b:int)(c:int)(d:int)(e:int)(f:int)(g:int)(h:int) : int = let z : int = a - h in z;"
        + "len (l : list) : int = 1; by (k : int -> int) (a : int) : int = k a; five : int = 5;";
    private static final int[][] FIRST_TYPES = {{0, 0}, {0, 0, 0, 0, 0, 0, 0, 0}, {1}, {2, 0}, {}};
    private static final int[] FIRST_CASES = {4, 256, 2, 6, 1};
    private static final String SECOND = "f : list = cons 7 (cons 8 nil);";

    public static void main(String[] args) {
        newObject();
        feedCounts();
        feedOctets();
        feedForgets();
        wipes();
        compiles();
        places();
        functions();
        parameters();
        values();
        strictPlaces();
        arguments();
        runs();
        tolds();
        elements();
        firstNamedException();
        refusedCallsChangeNothing();
        refusedFeedsAtTheEnd();
        end();
    }

    // ---------------------------------------------------------------- each method

    private static void newObject() {
        about = "LazyStrict(): An empty TEXT, not compiled";
        dueNothing(new LazyStrict());
        due("wipe()", new LazyStrict().wipe(), 0);
        due("feed(1)", new LazyStrict().feed(1, 'f'), 1);
        due("feed(8)", new LazyStrict().feed(8, -1L), 8);
        due("argument", new LazyStrict().argument(0), 1);
        due("compile()", new LazyStrict().compile(), 0);
        due("NONE", LazyStrict.NONE, -1);
        LazyStrict one = new LazyStrict();
        LazyStrict other = new LazyStrict();
        feed(one, SECOND);
        one.argument(1);
        due("another object's TEXT", other.wipe(), 0);
        due("another object's arguments", other.argument(1), 1);
    }

    private static void feedCounts() {
        about = "feed: n is not 1 .. 8";
        LazyStrict x = new LazyStrict();
        for (int n = 1; n <= 8; n++) {
            due("feed(" + n + ")", x.feed(n, 0), n * (n + 1) / 2);
        }
        for (int n : new int[] {0, -1, -8, 9, 10, 16, 64, Integer.MIN_VALUE, Integer.MAX_VALUE}) {
            illegal("feed(" + n + ")", () -> x.feed(n, 0));
        }
        due("wipe()", x.wipe(), 36);
    }

    private static void feedOctets() {
        about = "The n lowest octets of a long, the lowest first";
        String text = "f:int=1;";
        for (int n = 1; n <= 8; n++) {
            long above = n == 8 ? 0 : -1L << 8 * n;
            LazyStrict x = new LazyStrict();
            due("feed(" + n + ")", x.feed(n, packed(text.substring(0, n)) | above), n);
            if (n < 8) {
                x.feed(8 - n, packed(text.substring(n)) | (-1L << 8 * (8 - n)));
            }
            due("compile() of " + n + " octets, then the others", x.compile(), 1);
        }
        for (int i = 0; i < 8; i++) {
            // An octet of 255, the greatest, at each of the eight places.
            LazyStrict x = new LazyStrict();
            x.feed(8, 0x2020202020202020L | 255L << 8 * i);
            due("compile() with 255 at " + i, x.compile(), -1);
            due("place()", x.place(), i);
        }
        LazyStrict all = new LazyStrict();
        all.feed(8, -1L);
        all.compile();
        due("place() of eight 255", all.place(), 0);
    }

    private static LazyStrict used() {
        LazyStrict x = compiled(FIRST);
        due("run", run(x, 0, 1000, true, 1, 3), 1);
        for (int i = 0; i < 8; i++) {
            x.argument(i);
        }
        return x;
    }

    private static void feedForgets() {
        about = "feed: what was compiled and run is no more, the arguments, too";
        LazyStrict x = used();
        due("feed(1)", x.feed(1, ' '), FIRST.length() + 1);
        dueNothing(x);
        due("argument", x.argument(1), 1);
        due("compile()", x.compile(), 5);
        LazyStrict y = used();
        illegal("feed(0)", () -> y.feed(0, ' '));
        dueThrow("argument", IllegalStateException.class, () -> y.argument(1));
        due("functions()", y.functions(), 5);
        due("told(6)", y.told(6), 3);
        due("run with the arguments", y.run(1, 100, false), 1);
    }

    private static void wipes() {
        about = "wipe: THE TEXT is empty then, likewise. Answers its size before";
        LazyStrict x = used();
        due("wipe()", x.wipe(), FIRST.length());
        dueNothing(x);
        due("argument", x.argument(1), 1);
        due("wipe() of nothing", x.wipe(), 0);
        due("argument: those before are no more", x.argument(1), 1);
        due("compile()", x.compile(), 0);
        due("wipe() of nothing, compiled", x.wipe(), 0);
        due("rounds()", x.rounds(), 0);
        due("feed(1)", x.feed(1, '#'), 1);
        due("wipe() of one", x.wipe(), 1);
        due("feed(8)", x.feed(8, packed("f:int=1;")), 8);
        due("compile()", x.compile(), 1);
    }

    private static void compiles() {
        about = "compile: how many FUNCTIONS it has, or the FAULT, below 0";
        LazyStrict x = new LazyStrict();
        due("nothing", x.compile(), 0);
        due("nothing again", x.compile(), 0);
        feed(x, "f : int = 1;");
        due("one", x.compile(), 1);
        due("one again", x.compile(), 1);
        feed(x, "#");
        due("a fault", x.compile(), -1);
        due("a fault again", x.compile(), -1);
        due("place()", x.place(), 12);
        x.wipe();
        due("nothing", x.compile(), 0);
        // Runs and arguments stay when the same TEXT is compiled again.
        LazyStrict y = used();
        due("again", y.compile(), 5);
        due("told(6)", y.told(6), 3);
        due("element(2)", y.element(2), 3);
        due("run with the arguments", y.run(1, 100, false), 1);
        due("told(5)", y.told(5), -7);
    }

    private static void places() {
        about = "place: of this TEXT; NONE without one";
        LazyStrict x = new LazyStrict();
        due("new", x.place(), LazyStrict.NONE);
        x.feed(1, '#');
        due("not compiled", x.place(), LazyStrict.NONE);
        x.compile();
        due("the first octet", x.place(), 0);
        x.feed(1, ' ');
        due("another TEXT", x.place(), LazyStrict.NONE);
        x.compile();
        due("compiled again", x.place(), 0);
        x.wipe();
        due("wiped", x.place(), LazyStrict.NONE);
        x.compile();
        due("without a fault", x.place(), LazyStrict.NONE);
        LazyStrict last = fed(" ".repeat(3999) + "#");
        last.compile();
        due("the last octet", last.place(), 3999);
        LazyStrict behind = fed(" ".repeat(3999) + "f");
        behind.compile();
        due("behind the last octet", behind.place(), 4000);
    }

    private static void functions() {
        about = "function: IndexOutOfBoundsException: also of what";
        LazyStrict x = compiled(FIRST);
        for (int f = 0; f < 5; f++) {
            due("PARAMETERS of " + f, x.function(f, 0), FIRST_TYPES[f].length);
            due("CASES of " + f, x.function(f, 2), FIRST_CASES[f]);
            for (int what = 0; what <= 6; what++) {
                x.function(f, what);
            }
            for (int what : edges(7)) {
                int of = f;
                outside("function(" + f + ", " + what + ")", () -> x.function(of, what));
            }
        }
        for (int f : edges(5)) {
            outside("function(" + f + ", 0)", () -> x.function(f, 0));
            outside("function(" + f + ", 6)", () -> x.function(f, 6));
        }
        due("functions()", x.functions(), 5);
    }

    /** Numbers that are not 0 .. count - 1: those beside these, and those far away. */
    private static int[] edges(int count) {
        return new int[] {-1, count, -2, count + 1, FAR[0], FAR[1], FAR[2], FAR[3]};
    }

    private static void parameters() {
        about = "parameter: IndexOutOfBoundsException: also of what";
        LazyStrict x = compiled(FIRST);
        for (int f = 0; f < 5; f++) {
            int of = f;
            int count = FIRST_TYPES[f].length;
            for (int i = 0; i < count; i++) {
                due("parameter(" + f + ", " + i + ", 0)", x.parameter(f, i, 0), FIRST_TYPES[f][i]);
                x.parameter(f, i, 1);
            }
            for (int i : edges(count)) {
                outside("parameter(" + f + ", " + i + ", 0)", () -> x.parameter(of, i, 0));
                outside("parameter(" + f + ", " + i + ", 1)", () -> x.parameter(of, i, 1));
            }
        }
        for (int bad : edges(2)) {
            outside("parameter(0, 0, " + bad + ")", () -> x.parameter(0, 0, bad));
            outside("parameter(0, 1, " + bad + ")", () -> x.parameter(0, 1, bad));
        }
        for (int bad : edges(5)) {
            outside("parameter(" + bad + ", 0, 0)", () -> x.parameter(bad, 0, 0));
        }
        outside("parameter(4, 0, 0): it has none", () -> x.parameter(4, 0, 0));
        due("the first of eight is STRICT", x.parameter(1, 0, 1), 1);
        due("the last of eight is STRICT", x.parameter(1, 7, 1), 1);
        due("one between is not", x.parameter(1, 3, 1), 0);
    }

    private static void values() {
        about = "value: there is none such";
        LazyStrict x = compiled(FIRST);
        for (int f = 0; f < 5; f++) {
            int of = f;
            due("the last CASE of " + f, x.value(f, FIRST_CASES[f] - 1), 1);
            x.value(f, 0);
            for (int number : edges(FIRST_CASES[f])) {
                outside("value(" + f + ", " + number + ")", () -> x.value(of, number));
            }
        }
        for (int bad : edges(5)) {
            outside("value(" + bad + ", 0)", () -> x.value(bad, 0));
        }
    }

    private static void strictPlaces() {
        about = "isStrict: NONE when there is none there";
        LazyStrict x = compiled(FIRST);
        int let = FIRST.indexOf("let");
        due("the word", x.isStrict(let), 1);
        for (int place : new int[] {let - 1, let + 1, let + 2, let + 3, 0, -1, FIRST.length() - 1, FIRST.length(), 3999, 4000,
            FAR[0], FAR[1], FAR[2], FAR[3]}) {
            due("isStrict(" + place + ")", x.isStrict(place), LazyStrict.NONE);
        }
        x.feed(1, '#');
        due("another TEXT", x.isStrict(let), LazyStrict.NONE);
        x.compile();
        due("with a fault", x.isStrict(let), LazyStrict.NONE);
        LazyStrict first = compiled("f:int=" + "let a:int=1 in ".repeat(29) + "a;");
        for (int i = 0; i < 29; i++) {
            due("let " + i, first.isStrict(6 + 15 * i), i == 28 ? 1 : 0);
        }
    }

    private static void arguments() {
        about = "argument: there are eight";
        LazyStrict x = compiled(FIRST);
        int[] given = {Integer.MIN_VALUE, -1, 0, 1, 2, 3, 4, Integer.MAX_VALUE};
        for (int i = 0; i < 8; i++) {
            due("argument " + i, x.argument(given[i]), i + 1);
        }
        for (int i = 0; i < 3; i++) {
            dueThrow("a ninth one", IllegalStateException.class, () -> x.argument(9));
        }
        due("run", x.run(1, 100, false), 1);
        due("the first less the eighth", x.told(5), Integer.MIN_VALUE - Integer.MAX_VALUE);
        due("the first one for the next run()", x.argument(1), 1);
        due("an argument before compile()", new LazyStrict().argument(1), 1);
        LazyStrict before = fed("f (a : int) : int = a;");
        before.argument(6);
        before.compile();
        due("run", before.run(0, 10, false), 1);
        due("told(5)", before.told(5), 6);
        about = "the arguments, in order";
        for (int place = 0; place < 8; place++) {
            String names = "abcdefgh";
            int[] eight = {11, 12, 13, 14, 15, 16, 17, 18};
            due("argument " + place, numbered("x (a:int)(b:int)(c:int)(d:int)(e:int)(f:int)(g:int)(h:int) : int = "
                + names.charAt(place) + ";", 0, eight), 11 + place);
        }
    }

    private static void runs() {
        about = "run: how it ends, or what it throws";
        LazyStrict x = compiled(FIRST);
        for (int f : edges(5)) {
            outside("run(" + f + ")", () -> x.run(f, 100, false));
        }
        due("the last FUNCTION", x.run(4, 100, false), 1);
        for (int steps : edges(50001)) {
            illegal("run of " + steps + " steps", () -> x.run(4, steps, true));
        }
        due("0 steps", x.run(4, 0, false), 3);
        due("50000 steps", x.run(4, 50000, false), 1);
        due("the first FUNCTION", run(x, 0, 50000, true, 1, 1), 1);
        for (int count = 0; count <= 8; count++) {
            LazyStrict y = compiled(FIRST);
            for (int i = 0; i < count; i++) {
                y.argument(i);
            }
            for (int f = 0; f < 5; f++) {
                int of = f;
                boolean fits = f != 2 && f != 3 && FIRST_TYPES[f].length == count;
                if (!fits) {
                    illegal("run(" + f + ") with " + count, () -> y.run(of, 1000, false));
                }
            }
            if (count < 8) {
                due("these stay", y.argument(0), count + 1);
            }
        }
        LazyStrict not = fed(FIRST);
        outside("run before compile()", () -> not.run(4, 10, false));
        LazyStrict faulty = fed(FIRST + "#");
        faulty.compile();
        outside("run with a fault", () -> faulty.run(4, 10, false));
        LazyStrict empty = new LazyStrict();
        empty.compile();
        outside("run of nothing", () -> empty.run(0, 10, false));
    }

    private static void tolds() {
        about = "told: another what";
        LazyStrict x = used();
        int[] first = {x.told(0), x.told(1), x.told(2), 3, x.told(4), 0, 3, 1, 4, x.told(9)};
        dueTold(x, "a run", first);
        for (LazyStrict of : new LazyStrict[] {x, new LazyStrict(), fed("#")}) {
            for (int what : edges(10)) {
                outside("told(" + what + ")", () -> of.told(what));
            }
        }
        dueTold(x, "behind it", first);
    }

    private static void elements() {
        about = "element: there is none such";
        for (int n : new int[] {0, 1, 2, 49, 50, 51}) {
            LazyStrict x = compiled(FIRST);
            due("run", run(x, 0, 5000, false, 1, n), 1);
            int gone = Math.min(n, 50);
            for (int i = 0; i < gone; i++) {
                due("element(" + i + ")", x.element(i), i + 1);
            }
            for (int i : edges(gone)) {
                outside("element(" + i + ") of " + gone, () -> x.element(i));
            }
            outside("element(50)", () -> x.element(50));
        }
        outside("before a run", () -> compiled(FIRST).element(0));
        outside("of a new object", () -> new LazyStrict().element(0));
    }

    private static void firstNamedException() {
        about = "the one named first when several would do";
        LazyStrict x = compiled(FIRST);
        outside("no FUNCTION, and wrong steps", () -> x.run(5, 50001, false));
        outside("no FUNCTION, and wrong steps", () -> x.run(-1, -1, false));
        x.argument(1);
        outside("no FUNCTION, wrong steps, an argument", () -> x.run(5, -1, true));
        illegal("wrong steps, and not all int", () -> x.run(2, -1, true));
        outside("not compiled, and wrong steps", () -> new LazyStrict().run(0, -1, true));
        due("the argument stayed", x.argument(1), 2);
    }

    // ---------------------------------------------------------------- refused calls in a row of calls

    /** What the document says of an object at some place in the row, for what it must refuse there. */
    private record State(int size, int[][] types, int[] cases, int given, int gone) {
    }

    private interface Call {
        int on(LazyStrict x);
    }

    private record Step(String name, Call call, State before) {
    }

    private record Refused(String name, Call call, Class<? extends RuntimeException> due) {
    }

    /** A row of calls that come through all methods and states. */
    private static final class Row {
        final List<Step> steps = new ArrayList<>();
        private int size;
        private int[][] types = {};
        private int[] cases = {};
        private int given;
        private int gone;

        void add(String name, Call call) {
            steps.add(new Step(name, call, new State(size, types, cases, given, gone)));
        }

        void text(String text) {
            for (int at = 0; at < text.length(); at += 8) {
                int n = Math.min(8, text.length() - at);
                long octets = packed(text.substring(at, at + n));
                add("feed(" + n + ")", x -> x.feed(n, octets));
                size += n;
                forget();
            }
        }

        void wipe() {
            add("wipe()", LazyStrict::wipe);
            size = 0;
            forget();
        }

        private void forget() {
            types = new int[][] {};
            cases = new int[] {};
            given = 0;
            gone = 0;
        }

        void compile(int[][] typesThen, int[] casesThen) {
            add("compile()", LazyStrict::compile);
            types = typesThen;
            cases = casesThen;
        }

        void argument(int v) {
            add("argument(" + v + ")", x -> x.argument(v));
            given++;
        }

        void run(int f, int steps, boolean quick, int goneThen) {
            add("run(" + f + ", " + steps + ")", x -> x.run(f, steps, quick));
            given = 0;
            gone = goneThen;
        }

        void look() {
            add("place()", LazyStrict::place);
            add("functions()", LazyStrict::functions);
            add("rounds()", LazyStrict::rounds);
            for (int what = 0; what < 10; what++) {
                int of = what;
                add("told(" + what + ")", x -> x.told(of));
            }
            for (int i = 0; i < gone; i++) {
                int of = i;
                add("element(" + i + ")", x -> x.element(of));
            }
            for (int f = 0; f < types.length; f++) {
                int of = f;
                add("function(" + f + ", 6)", x -> x.function(of, 6));
                add("value(" + f + ", 0)", x -> x.value(of, 0));
            }
            add("isStrict", x -> x.isStrict(FIRST.indexOf("let")));
        }
    }

    private static Row row() {
        Row row = new Row();
        row.look();
        row.compile(new int[][] {}, new int[] {});
        row.argument(1);
        row.text(FIRST);
        row.argument(1);
        row.compile(FIRST_TYPES, FIRST_CASES);
        row.argument(3);
        row.run(0, 500, true, 3);
        row.look();
        for (int i = 0; i < 8; i++) {
            row.argument(i + 1);
        }
        row.run(1, 500, false, 0);
        row.look();
        row.run(4, 0, false, 0);
        row.argument(4);
        row.text("#");
        row.argument(2);
        row.compile(new int[][] {}, new int[] {});
        row.look();
        row.wipe();
        row.text(SECOND);
        row.compile(new int[][] {{}}, new int[] {1});
        row.run(0, 10, false, 2);
        row.look();
        row.wipe();
        row.wipe();
        return row;
    }

    private static List<Refused> refused(State s) {
        List<Refused> all = new ArrayList<>();
        for (int n : edges(9)) {
            int octets = n == -2 ? 0 : n;
            all.add(new Refused("feed(" + octets + ")", x -> x.feed(octets, 'f'), IllegalArgumentException.class));
        }
        int count = s.types.length;
        for (int f : edges(count)) {
            outsideOf(all, "function(" + f + ", 0)", x -> x.function(f, 0));
            outsideOf(all, "parameter(" + f + ", 0, 0)", x -> x.parameter(f, 0, 0));
            outsideOf(all, "value(" + f + ", 0)", x -> x.value(f, 0));
            outsideOf(all, "run(" + f + ", 10)", x -> x.run(f, 10, false));
            outsideOf(all, "run(" + f + ", -1)", x -> x.run(f, -1, true));
        }
        for (int what : edges(10)) {
            outsideOf(all, "told(" + what + ")", x -> x.told(what));
        }
        for (int i : edges(s.gone)) {
            outsideOf(all, "element(" + i + ")", x -> x.element(i));
        }
        if (s.given == 8) {
            all.add(new Refused("argument(77)", x -> x.argument(77), IllegalStateException.class));
        }
        for (int f = 0; f < count; f++) {
            refusedOf(all, s, f);
        }
        return all;
    }

    private static void refusedOf(List<Refused> all, State s, int f) {
        for (int bad : new int[] {-1, 7}) {
            outsideOf(all, "function(" + f + ", " + bad + ")", x -> x.function(f, bad));
        }
        for (int bad : new int[] {-1, s.cases[f]}) {
            outsideOf(all, "value(" + f + ", " + bad + ")", x -> x.value(f, bad));
        }
        for (int bad : new int[] {-1, s.types[f].length}) {
            outsideOf(all, "parameter(" + f + ", " + bad + ", 1)", x -> x.parameter(f, bad, 1));
        }
        for (int bad : new int[] {-1, 2}) {
            outsideOf(all, "parameter(" + f + ", 0, " + bad + ")", x -> x.parameter(f, 0, bad));
        }
        boolean takes = s.types[f].length == s.given;
        for (int type : s.types[f]) {
            takes &= type == 0;
        }
        for (int steps : new int[] {-1, 50001, 0, 50000}) {
            if (!takes || steps < 0 || steps > 50000) {
                all.add(new Refused("run(" + f + ", " + steps + ")", x -> x.run(f, steps, true),
                    IllegalArgumentException.class));
            }
        }
    }

    private static void outsideOf(List<Refused> all, String name, Call call) {
        all.add(new Refused(name, call, IndexOutOfBoundsException.class));
    }

    private static void refusedCallsChangeNothing() {
        about = "a call that throws changes nothing";
        List<Step> steps = row().steps;
        int[] answers = new int[steps.size()];
        LazyStrict alone = new LazyStrict();
        for (int i = 0; i < answers.length; i++) {
            answers[i] = steps.get(i).call.on(alone);
        }
        int room = MOST_CALLS - steps.size();
        due("room for refused calls", room > 50 ? 1 : 0, 1);
        for (int at = 0; at < answers.length; at++) {
            List<Refused> all = refused(steps.get(at).before);
            for (int from = 0; from < all.size(); from += room) {
                List<Refused> some = all.subList(from, Math.min(all.size(), from + room));
                rowWith(steps, answers, at, some);
            }
        }
    }

    private static void rowWith(List<Step> steps, int[] answers, int at, List<Refused> refused) {
        LazyStrict x = new LazyStrict();
        for (int i = 0; i < answers.length; i++) {
            if (i == at) {
                for (Refused r : refused) {
                    IntSupplier call = () -> r.call.on(x);
                    dueThrow("before call " + at + ", " + steps.get(at).name + ": " + r.name, r.due, call);
                }
            }
            due("call " + i + ", " + steps.get(i).name + ", with calls refused before call " + at,
                steps.get(i).call.on(x), answers[i]);
        }
    }

    private static void refusedFeedsAtTheEnd() {
        about = "feed: there would be more than 4000";
        String text = FIRST + " ".repeat(3992 - FIRST.length());
        for (int size = 3993; size <= 4000; size++) {
            int at = size;
            LazyStrict x = fed(text);
            due("feed to " + size, x.feed(size - 3992, packed("f:int=1;".substring(4000 - size))), size);
            x.argument(6);
            for (int n = 4001 - size; n <= 8; n++) {
                int octets = n;
                illegal("feed(" + n + ") at " + size, () -> x.feed(octets, packed(" ".repeat(octets))));
            }
            due("the argument is there behind it", x.argument(7), 2);
            due("the size behind it", x.wipe(), at);
        }
        LazyStrict x = fed(text + "f:int=1;");
        due("compile()", x.compile(), 6);
        illegal("feed(1) at 4000", () -> x.feed(1, '#'));
        illegal("feed(8) at 4000", () -> x.feed(8, '#'));
        due("functions()", x.functions(), 6);
        due("compile()", x.compile(), 6);
        due("place()", x.place(), LazyStrict.NONE);
        due("the last FUNCTION's place", x.function(5, 6), 3992);
        due("wipe()", x.wipe(), 4000);
    }
}
