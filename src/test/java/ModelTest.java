import java.util.ArrayList;
import java.util.HashMap;
import java.util.HashSet;
import java.util.List;
import java.util.Map;
import java.util.Random;
import java.util.Set;

/**
 * Compares LazyStrict with a second writing of the document, made of objects and plain recursion,
 * on many made-up texts: whole ones, broken ones, and ones that reach the limits.
 */
public final class ModelTest {
    private static int wrong = 0;
    private static LazyStrict used = new LazyStrict();
    private static int usedSize = 0;
    private static final Map<String, Integer> SEEN = new HashMap<>();

    public static void main(String[] args) {
        int rounds = args.length > 0 ? Integer.parseInt(args[0]) : 4000;
        long seed = args.length > 1 ? Long.parseLong(args[1]) : 20261115L;
        Random random = new Random(seed);
        for (String text : Limits.texts()) {
            compare(text, random);
        }
        for (String text : Limits.oneTokenOff()) {
            compare(text, random);
        }
        for (int i = 0; i < rounds; i++) {
            Maker maker = new Maker(random);
            String text = maker.program();
            int breaks = random.nextInt(5) == 0 ? 1 + random.nextInt(2) : 0;
            for (int k = 0; k < breaks; k++) {
                text = maker.broken(text);
            }
            compare(text, random);
        }
        for (String due : new String[] {"compile -1", "compile -2", "compile -3", "compile -4", "compile -5",
            "compile -6", "compile -7", "compile -8", "run 1", "run 2", "run 3", "run 4", "run 5"}) {
            if (!SEEN.containsKey(due)) {
                wrong++;
                System.out.println("no text led to " + due);
            }
        }
        if (args.length > 0) {
            System.out.println(SEEN);
        }
        if (wrong > 0) {
            System.out.println(wrong + " differences from the model");
            System.exit(1);
        }
    }

    private static void seen(String what) {
        SEEN.merge(what, 1, Integer::sum);
    }

    private static void due(String text, String call, long got, long want) {
        if (got != want) {
            wrong++;
            if (wrong < 20) {
                System.out.println(call + " answered " + got + ", the model says " + want + ", text:\n" + text);
            }
        }
    }

    /** An object that had other texts before, mostly: nothing of these may stay. */
    private static LazyStrict fed(String text, Random random) {
        if (random.nextInt(10) == 0) {
            used = new LazyStrict();
            usedSize = 0;
        }
        LazyStrict lazy = used;
        due(text, "wipe()", lazy.wipe(), usedSize);
        usedSize = text.length();
        int at = 0;
        while (at < text.length()) {
            int n = Math.min(8, text.length() - at);
            long octets = 0;
            for (int i = 0; i < n; i++) {
                octets |= (long) (text.charAt(at + i) & 255) << (8 * i);
            }
            at += n;
            due(text, "feed", lazy.feed(n, octets), at);
        }
        return lazy;
    }

    private static void compare(String text, Random random) {
        if (text.length() > 4000) {
            return;
        }
        Model model = new Model(text);
        LazyStrict lazy = fed(text, random);
        seen("compile " + (model.fault > 0 ? -model.fault : 0));
        due(text, "compile()", lazy.compile(), model.fault > 0 ? -model.fault : model.functions.size());
        due(text, "place()", lazy.place(), model.fault > 0 ? model.place : -1);
        due(text, "functions()", lazy.functions(), model.fault > 0 ? 0 : model.functions.size());
        due(text, "rounds()", lazy.rounds(), model.fault > 0 ? 0 : model.rounds);
        Map<Integer, Integer> lets = new HashMap<>();
        if (model.fault == 0) {
            compareFunctions(text, lazy, model, lets);
        }
        for (int place = -1; place <= text.length(); place++) {
            due(text, "isStrict(" + place + ")", lazy.isStrict(place), lets.getOrDefault(place, -1));
        }
        if (model.fault == 0 && wrong == 0) {
            for (int f = 0; f < model.functions.size(); f++) {
                compareRun(text, lazy, model, f, random);
            }
        }
    }

    private static void compareFunctions(String text, LazyStrict lazy, Model model, Map<Integer, Integer> lets) {
        for (int f = 0; f < model.functions.size(); f++) {
            Fun fun = model.functions.get(f);
            int strict = 0;
            for (Node let : fun.lets) {
                lets.put(let.place, let.strict ? 1 : 0);
                strict += let.strict ? 1 : 0;
            }
            int[] want = {fun.parameters.size(), fun.base, fun.cases, fun.locals.size(), fun.lets.size(), strict,
                fun.place};
            for (int what = 0; what < 7; what++) {
                due(text, "function(" + f + ", " + what + ")", lazy.function(f, what), want[what]);
            }
            for (int i = 0; i < fun.parameters.size(); i++) {
                due(text, "parameter(" + f + ", " + i + ", 0)", lazy.parameter(f, i, 0), fun.parameters.get(i).type);
                due(text, "parameter(" + f + ", " + i + ", 1)", lazy.parameter(f, i, 1),
                    fun.parameters.get(i).strict ? 1 : 0);
            }
            for (int number = 0; number < fun.cases; number++) {
                due(text, "value(" + f + ", " + number + ")", lazy.value(f, number), fun.values[number]);
            }
        }
    }

    private static void compareRun(String text, LazyStrict lazy, Model model, int f, Random random) {
        Fun fun = model.functions.get(f);
        for (Local p : fun.parameters) {
            if (p.type != 0) {
                return;
            }
        }
        int[] limits = {50000, 3000, random.nextInt(40), 0};
        for (int turn = 0; turn < 4; turn++) {
            int steps = turn < 2 ? limits[0] : limits[1 + random.nextInt(3)];
            boolean quick = turn % 2 == 1;
            int[] arguments = new int[fun.parameters.size()];
            for (int i = 0; i < arguments.length; i++) {
                arguments[i] = random.nextInt(8) == 0 ? random.nextInt() : random.nextInt(12) - 3;
                due(text, "argument", lazy.argument(arguments[i]), i + 1);
            }
            Run run = new Run(model, f, arguments, steps, quick);
            String call = "run(" + f + ", " + steps + ", " + quick + ") with " + java.util.Arrays.toString(arguments);
            seen("run " + run.end);
            due(text, call, lazy.run(f, steps, quick), run.end);
            for (int what = 0; what < 10; what++) {
                due(text, call + ", told(" + what + ")", lazy.told(what), run.told[what]);
            }
            for (int i = 0; i < run.told[6]; i++) {
                due(text, call + ", element(" + i + ")", lazy.element(i), run.elements.get(i));
            }
            try {
                lazy.element(run.told[6]);
                due(text, call + ", element behind the last", 0, 1);
            } catch (IndexOutOfBoundsException e) {
                continue;
            }
        }
    }

    // ---------------------------------------------------------------- the model

    private record Token(String letters, int place) {
    }

    private static final class Local {
        String name;
        int place;
        int type;
        boolean strict;
        int slot;
    }

    private static final class Node {
        String kind;
        int place;
        String name;
        int number;
        Local local;
        Local rest;
        Fun fun;
        boolean strict;
        List<Node> parts = new ArrayList<>();
        List<Local> scope;

        boolean isPartial() {
            if (!kind.equals("name")) {
                return false;
            }
            return parts.size() < (local != null ? Model.typesOf(local.type).size() - 1 : fun.parameters.size());
        }
    }

    private static final class Fun {
        String name;
        int place;
        int base;
        int cases;
        int[] values;
        Node body;
        List<Local> parameters = new ArrayList<>();
        List<Local> locals = new ArrayList<>();
        List<Node> lets = new ArrayList<>();
    }

    private static final class Fault extends RuntimeException {
        private static final long serialVersionUID = 1L;
        final int number;
        final int place;

        Fault(int number, int place) {
            this.number = number;
            this.place = place;
        }
    }

    private static final class Model {
        static final Set<String> WORDS = Set.of("int", "list", "let", "in", "if", "then", "else", "case", "of",
            "empty", "nil", "cons", "error");
        final List<Token> tokens = new ArrayList<>();
        final List<Fun> functions = new ArrayList<>();
        int fault;
        int place;
        int rounds;
        private int at;
        private Fun current;
        private List<Local> scope;

        Model(String text) {
            try {
                tokenise(text);
                while (!token().equals("")) {
                    readFunction();
                }
                names();
                for (Fun fun : functions) {
                    type(fun.body, List.of(fun.base));
                }
                cases();
                analyse();
            } catch (Fault f) {
                fault = f.number;
                place = f.place;
            }
        }

        private void tokenise(String text) {
            int i = 0;
            while (i < text.length()) {
                char c = text.charAt(i);
                if (c == ' ' || c == '\n') {
                    i++;
                    continue;
                }
                int end = i + 1;
                if (c >= 'a' && c <= 'z') {
                    while (end < text.length() && String.valueOf(text.charAt(end)).matches("[a-z0-9]")) {
                        end++;
                    }
                } else if (c >= '0' && c <= '9') {
                    while (end < text.length() && String.valueOf(text.charAt(end)).matches("[0-9]")) {
                        end++;
                    }
                } else if (text.startsWith("->", i)) {
                    end = i + 2;
                } else if ("():=;|+-*/<".indexOf(c) < 0) {
                    throw new Fault(1, i);
                }
                String letters = text.substring(i, end);
                boolean tooGreat = c >= '0' && c <= '9'
                    && new java.math.BigInteger(letters).compareTo(java.math.BigInteger.valueOf(2147483647)) > 0;
                if (tooGreat || c >= 'a' && c <= 'z' && letters.length() > 12 || tokens.size() == 1200) {
                    throw new Fault(1, i);
                }
                tokens.add(new Token(letters, i));
                i = end;
            }
            tokens.add(new Token("", text.length()));
        }

        private String token() {
            return tokens.get(at).letters;
        }

        private int here() {
            return tokens.get(at).place;
        }

        private boolean isName() {
            return !token().equals("") && Character.isLetter(token().charAt(0)) && !WORDS.contains(token());
        }

        private boolean isNumber() {
            return !token().equals("") && Character.isDigit(token().charAt(0));
        }

        private String pass(String letters) {
            if (!token().equals(letters)) {
                throw new Fault(2, here());
            }
            at++;
            return letters;
        }

        private String passName() {
            if (!isName()) {
                throw new Fault(2, here());
            }
            return tokens.get(at++).letters;
        }

        private void readFunction() {
            if (isName() && functions.size() == 40) {
                throw new Fault(4, here());
            }
            current = new Fun();
            current.place = here();
            current.name = passName();
            functions.add(current);
            scope = new ArrayList<>();
            while (token().equals("(")) {
                at++;
                if (isName() && current.parameters.size() == 8) {
                    throw new Fault(4, here());
                }
                Local p = local();
                pass(":");
                p.type = type();
                pass(")");
                current.parameters.add(p);
                scope.add(p);
            }
            pass(":");
            current.base = base();
            pass("=");
            current.body = expression(0);
            pass(";");
        }

        private Local local() {
            if (isName() && current.locals.size() == 30) {
                throw new Fault(4, here());
            }
            Local l = new Local();
            l.place = here();
            l.name = passName();
            l.slot = current.locals.size();
            current.locals.add(l);
            return l;
        }

        private int base() {
            if (token().equals("list")) {
                at++;
                return 1;
            }
            pass("int");
            return 0;
        }

        private int type() {
            List<Integer> bases = new ArrayList<>(List.of(base()));
            while (token().equals("->") && bases.size() < 3) {
                at++;
                bases.add(base());
            }
            return codeOf(bases);
        }

        static int codeOf(List<Integer> bases) {
            switch (bases.size()) {
                case 1:
                    return bases.get(0);
                case 2:
                    return 2 + 2 * bases.get(0) + bases.get(1);
                default:
                    return 6 + 4 * bases.get(0) + 2 * bases.get(1) + bases.get(2);
            }
        }

        static List<Integer> typesOf(int code) {
            for (int a = 0; a < 2; a++) {
                if (code == a) {
                    return List.of(a);
                }
                for (int b = 0; b < 2; b++) {
                    if (code == codeOf(List.of(a, b))) {
                        return List.of(a, b);
                    }
                    for (int c = 0; c < 2; c++) {
                        if (code == codeOf(List.of(a, b, c))) {
                            return List.of(a, b, c);
                        }
                    }
                }
            }
            throw new IllegalStateException();
        }

        private Node node(String kind, int where) {
            Node n = new Node();
            n.kind = kind;
            n.place = where;
            return n;
        }

        private Node expression(int within) {
            if (within == 30) {
                throw new Fault(3, here());
            }
            int start = here();
            Node n;
            switch (token()) {
                case "let":
                    at++;
                    n = node("let", start);
                    n.local = local();
                    pass(":");
                    n.local.type = base();
                    pass("=");
                    n.parts.add(expression(within + 1));
                    pass("in");
                    scope.add(n.local);
                    n.parts.add(expression(within + 1));
                    scope.remove(scope.size() - 1);
                    current.lets.add(n);
                    return n;
                case "if":
                    at++;
                    n = node("if", start);
                    n.parts.add(expression(within + 1));
                    pass("then");
                    n.parts.add(expression(within + 1));
                    pass("else");
                    n.parts.add(expression(within + 1));
                    return n;
                case "case":
                    at++;
                    n = node("case", start);
                    n.parts.add(expression(within + 1));
                    pass("of");
                    pass("empty");
                    pass("->");
                    n.parts.add(expression(within + 1));
                    pass("|");
                    n.local = local();
                    n.local.type = 0;
                    pass(":");
                    n.rest = local();
                    n.rest.type = 1;
                    pass("->");
                    scope.add(n.local);
                    scope.add(n.rest);
                    n.parts.add(expression(within + 1));
                    scope.remove(scope.size() - 1);
                    scope.remove(scope.size() - 1);
                    return n;
                default:
                    Node left = chain(within, "+-");
                    if (token().equals("=") || token().equals("<")) {
                        n = node(token(), here());
                        at++;
                        n.parts.add(left);
                        n.parts.add(chain(within, "+-"));
                        return n;
                    }
                    return left;
            }
        }

        private Node chain(int within, String signs) {
            boolean isSum = signs.equals("+-");
            Node left = isSum ? chain(within, "*/") : call(within);
            int count = 0;
            while (token().length() == 1 && signs.contains(token())) {
                count++;
                if (count == 11) {
                    throw new Fault(3, here());
                }
                Node n = node(token(), here());
                at++;
                n.parts.add(left);
                n.parts.add(isSum ? chain(within, "*/") : call(within));
                left = n;
            }
            return left;
        }

        private boolean atomBegins() {
            return isName() || isNumber() || Set.of("nil", "error", "(").contains(token());
        }

        private Node call(int within) {
            if (token().equals("cons")) {
                Node n = node("cons", here());
                at++;
                n.parts.add(atom(within));
                n.parts.add(atom(within));
                return n;
            }
            if (!isName()) {
                return atom(within);
            }
            Node n = atom(within);
            while (atomBegins()) {
                n.parts.add(atom(within));
            }
            return n;
        }

        private Node atom(int within) {
            int start = here();
            if (token().equals("(")) {
                at++;
                Node n = expression(within + 1);
                pass(")");
                return n;
            }
            if (!atomBegins()) {
                throw new Fault(2, here());
            }
            Node n;
            if (isNumber()) {
                n = node("number", start);
                n.number = Integer.parseInt(token());
            } else if (isName()) {
                n = node("name", start);
                n.name = token();
                n.scope = new ArrayList<>(scope);
            } else {
                n = node(token(), start);
            }
            at++;
            return n;
        }

        private void names() {
            Set<String> all = new HashSet<>();
            for (Fun fun : functions) {
                if (!all.add(fun.name)) {
                    throw new Fault(5, fun.place);
                }
                Set<String> own = new HashSet<>();
                for (Local p : fun.parameters) {
                    if (!own.add(p.name)) {
                        throw new Fault(5, p.place);
                    }
                }
            }
        }

        private void type(Node n, List<Integer> wanted) {
            List<Integer> list = List.of(1);
            List<Integer> number = List.of(0);
            switch (n.kind) {
                case "let":
                    need(n, wanted.size() == 1);
                    type(n.parts.get(0), List.of(n.local.type));
                    type(n.parts.get(1), wanted);
                    return;
                case "if":
                case "case":
                    need(n, wanted.size() == 1);
                    type(n.parts.get(0), n.kind.equals("if") ? number : list);
                    type(n.parts.get(1), wanted);
                    type(n.parts.get(2), wanted);
                    return;
                case "error":
                    need(n, wanted.size() == 1);
                    return;
                case "nil":
                    need(n, wanted.equals(list));
                    return;
                case "cons":
                    need(n, wanted.equals(list));
                    type(n.parts.get(0), number);
                    type(n.parts.get(1), list);
                    return;
                case "name":
                    typeName(n, wanted);
                    return;
                default:
                    need(n, wanted.equals(number));
                    for (Node part : n.parts) {
                        type(part, number);
                    }
            }
        }

        private void typeName(Node n, List<Integer> wanted) {
            for (Local l : n.scope) {
                if (l.name.equals(n.name)) {
                    n.local = l;
                }
            }
            for (Fun f : functions) {
                if (n.local == null && f.name.equals(n.name)) {
                    n.fun = f;
                }
            }
            if (n.local == null && n.fun == null) {
                throw new Fault(6, n.place);
            }
            List<List<Integer>> has = new ArrayList<>();
            if (n.local != null) {
                for (int base : typesOf(n.local.type)) {
                    has.add(List.of(base));
                }
            } else {
                for (Local p : n.fun.parameters) {
                    has.add(typesOf(p.type));
                }
                has.add(List.of(n.fun.base));
            }
            need(n, n.parts.size() < has.size());
            List<List<Integer>> left = has.subList(n.parts.size(), has.size());
            List<List<Integer>> wantedParts = new ArrayList<>();
            for (int base : wanted) {
                wantedParts.add(List.of(base));
            }
            need(n, left.equals(wantedParts));
            for (int i = 0; i < n.parts.size(); i++) {
                type(n.parts.get(i), has.get(i));
            }
        }

        private void need(Node n, boolean holds) {
            if (!holds) {
                throw new Fault(7, n.place);
            }
        }

        private void cases() {
            for (Fun fun : functions) {
                fun.cases = 1;
                for (Local p : fun.parameters) {
                    fun.cases *= count(p.type);
                }
                if (fun.cases > 1000) {
                    throw new Fault(8, fun.place);
                }
                fun.values = new int[fun.cases];
            }
        }

        static int count(int type) {
            return new int[] {2, 3, 6}[typesOf(type).size() - 1];
        }

        private void analyse() {
            boolean changed = true;
            while (changed) {
                changed = false;
                rounds++;
                List<int[]> anew = new ArrayList<>();
                for (Fun fun : functions) {
                    int[] values = new int[fun.cases];
                    for (int number = 0; number < fun.cases; number++) {
                        values[number] = point(fun.body, decode(fun, number));
                        changed |= values[number] != fun.values[number];
                    }
                    anew.add(values);
                }
                for (int f = 0; f < functions.size(); f++) {
                    functions.get(f).values = anew.get(f);
                }
            }
            for (Fun fun : functions) {
                for (Local p : fun.parameters) {
                    Map<Local, Integer> env = greatest(fun);
                    env.put(p, 0);
                    p.strict = p.type < 2 && fun.values[encode(fun, env)] == 0;
                }
                for (Node let : fun.lets) {
                    Map<Local, Integer> env = greatest(fun);
                    env.put(let.local, 0);
                    let.strict = point(let.parts.get(1), env) == 0;
                }
            }
        }

        private static Map<Local, Integer> greatest(Fun fun) {
            Map<Local, Integer> env = new HashMap<>();
            for (Local l : fun.locals) {
                env.put(l, count(l.type) - 1);
            }
            return env;
        }

        private static Map<Local, Integer> decode(Fun fun, int number) {
            int span = fun.cases;
            int left = number;
            Map<Local, Integer> env = new HashMap<>();
            for (Local p : fun.parameters) {
                span /= count(p.type);
                env.put(p, left / span);
                left %= span;
            }
            return env;
        }

        private static int encode(Fun fun, Map<Local, Integer> env) {
            int number = 0;
            for (Local p : fun.parameters) {
                number = number * count(p.type) + env.get(p);
            }
            return number;
        }

        /** The point of a shape: which of the six, for these two. */
        static int apply(int shape, List<Integer> points) {
            if (points.size() == 1) {
                return new int[][] {{0, 0}, {0, 1}, {1, 1}}[shape][points.get(0)];
            }
            int[][] made = {{0, 0, 0, 0}, {0, 0, 0, 1}, {0, 0, 1, 1}, {0, 1, 0, 1}, {0, 1, 1, 1}, {1, 1, 1, 1}};
            return made[shape][2 * points.get(0) + points.get(1)];
        }

        static int shapeLike(int[] points) {
            int left = points.length == 2 ? 1 : 2;
            for (int shape = 0; shape < (left == 1 ? 3 : 6); shape++) {
                boolean same = true;
                for (int i = 0; i < points.length; i++) {
                    List<Integer> given = left == 1 ? List.of(i) : List.of(i / 2, i % 2);
                    same &= apply(shape, given) == points[i];
                }
                if (same) {
                    return shape;
                }
            }
            throw new IllegalStateException("no such shape");
        }

        private int point(Node n, Map<Local, Integer> env) {
            switch (n.kind) {
                case "number":
                case "nil":
                case "cons":
                    return 1;
                case "error":
                    return 0;
                case "let": {
                    Map<Local, Integer> inner = new HashMap<>(env);
                    inner.put(n.local, point(n.parts.get(0), env));
                    return point(n.parts.get(1), inner);
                }
                case "if":
                case "case": {
                    Map<Local, Integer> inner = new HashMap<>(env);
                    if (n.kind.equals("case")) {
                        inner.put(n.local, 1);
                        inner.put(n.rest, 1);
                    }
                    return Math.min(point(n.parts.get(0), env),
                        Math.max(point(n.parts.get(1), env), point(n.parts.get(2), inner)));
                }
                case "name": {
                    List<Integer> points = new ArrayList<>();
                    for (Node part : n.parts) {
                        points.add(point(part, env));
                    }
                    return pointOfName(n, env, points);
                }
                default:
                    return Math.min(point(n.parts.get(0), env), point(n.parts.get(1), env));
            }
        }

        private int pointOfName(Node n, Map<Local, Integer> env, List<Integer> points) {
            int takes = n.local != null ? typesOf(n.local.type).size() - 1 : n.fun.parameters.size();
            if (n.local != null && points.isEmpty()) {
                return env.get(n.local);
            }
            if (points.size() < takes) {
                int left = takes - points.size();
                int[] all = new int[1 << left];
                for (int i = 0; i < all.length; i++) {
                    List<Integer> more = new ArrayList<>(points);
                    if (left == 2) {
                        more.add(i / 2);
                    }
                    more.add(i % 2);
                    all[i] = pointOfName(n, env, more);
                }
                return shapeLike(all);
            }
            if (n.local != null) {
                return apply(env.get(n.local), points);
            }
            Map<Local, Integer> made = new HashMap<>();
            for (int i = 0; i < takes; i++) {
                made.put(n.fun.parameters.get(i), points.get(i));
            }
            return n.fun.values[encode(n.fun, made)];
        }
    }

    private static final class Stop extends RuntimeException {
        private static final long serialVersionUID = 1L;
        final int end;

        Stop(int end) {
            super(null, null, false, false);
            this.end = end;
        }
    }

    private static final class Cell {
        Object first;
        Object second;
    }

    private static final class Later {
        Node node;
        Object[] frame;
        boolean busy;
        Object kept;
    }

    private record Partial(Fun fun, List<Object> got) {
    }

    /** A run; what is held is an Integer, "nil", a Cell, a Later or a Partial. */
    private static final class Run {
        final int[] told = new int[10];
        final List<Integer> elements = new ArrayList<>();
        int end;
        private final int limit;
        private final boolean quick;
        private int depth;
        private int locals;
        private int got;

        Run(Model model, int f, int[] arguments, int steps, boolean quick) {
            limit = steps;
            this.quick = quick;
            Fun fun = model.functions.get(f);
            try {
                List<Object> given = new ArrayList<>();
                for (int a : arguments) {
                    given.add(a);
                }
                Object answer = call(fun, given);
                if (fun.base == 1) {
                    along(answer);
                } else {
                    told[5] = (Integer) answer;
                }
                end = 1;
            } catch (Stop stop) {
                end = stop.end;
            }
        }

        private void along(Object list) {
            Object at = list;
            while (at instanceof Cell cell) {
                elements.add((Integer) force(cell.first));
                told[6]++;
                if (told[6] == 50) {
                    return;
                }
                at = force(cell.second);
            }
            told[7] = 1;
        }

        private Object force(Object held) {
            if (!(held instanceof Later later)) {
                return held;
            }
            if (later.kept != null) {
                return later.kept;
            }
            if (later.busy) {
                throw new Stop(2);
            }
            later.busy = true;
            later.kept = work(later.node, later.frame);
            told[2]--;
            return later.kept;
        }

        private Object call(Fun fun, List<Object> given) {
            if (locals + fun.locals.size() > 30000) {
                throw new Stop(5);
            }
            locals += fun.locals.size();
            told[8]++;
            Object[] frame = new Object[fun.locals.size()];
            for (int i = 0; i < given.size(); i++) {
                frame[i] = given.get(i);
            }
            return work(fun.body, frame);
        }

        private Object work(Node n, Object[] frame) {
            if (depth == 250) {
                throw new Stop(4);
            }
            if (told[0] == limit) {
                throw new Stop(3);
            }
            told[0]++;
            depth++;
            told[4] = Math.max(told[4], depth);
            Object answer = workParts(n, frame);
            depth--;
            return answer;
        }

        private Object workParts(Node n, Object[] frame) {
            switch (n.kind) {
                case "number":
                    return n.number;
                case "nil":
                    return "nil";
                case "error":
                    throw new Stop(2);
                case "let":
                    if (quick && n.strict) {
                        told[9]++;
                        frame[n.local.slot] = work(n.parts.get(0), frame);
                    } else {
                        frame[n.local.slot] = putOff(n.parts.get(0), frame);
                    }
                    return work(n.parts.get(1), frame);
                case "if":
                    return work(n.parts.get((Integer) work(n.parts.get(0), frame) != 0 ? 1 : 2), frame);
                case "case":
                    if (work(n.parts.get(0), frame) instanceof Cell cell) {
                        frame[n.local.slot] = cell.first;
                        frame[n.rest.slot] = cell.second;
                        return work(n.parts.get(2), frame);
                    }
                    return work(n.parts.get(1), frame);
                case "cons": {
                    if (told[3] == 3000) {
                        throw new Stop(5);
                    }
                    told[3]++;
                    Cell cell = new Cell();
                    cell.first = putOff(n.parts.get(0), frame);
                    cell.second = putOff(n.parts.get(1), frame);
                    return cell;
                }
                case "name":
                    return workName(n, frame);
                default:
                    return reckon(n.kind, (Integer) work(n.parts.get(0), frame),
                        (Integer) work(n.parts.get(1), frame));
            }
        }

        private Object workName(Node n, Object[] frame) {
            if (n.local != null && n.parts.isEmpty()) {
                return force(frame[n.local.slot]);
            }
            List<Object> given = new ArrayList<>();
            if (n.local != null) {
                Partial held = (Partial) frame[n.local.slot];
                given.addAll(held.got);
                for (Node part : n.parts) {
                    given.add(putOff(part, frame));
                }
                return call(held.fun, given);
            }
            for (int i = 0; i < n.parts.size(); i++) {
                if (quick && n.fun.parameters.get(i).strict) {
                    told[9]++;
                    given.add(work(n.parts.get(i), frame));
                } else {
                    given.add(putOff(n.parts.get(i), frame));
                }
            }
            return call(n.fun, given);
        }

        private static int reckon(String sign, int a, int b) {
            switch (sign) {
                case "+":
                    return a + b;
                case "-":
                    return a - b;
                case "*":
                    return a * b;
                case "=":
                    return a == b ? 1 : 0;
                case "<":
                    return a < b ? 1 : 0;
                default:
                    if (b == 0) {
                        throw new Stop(2);
                    }
                    return a / b;
            }
        }

        private Object putOff(Node n, Object[] frame) {
            if (n.kind.equals("number")) {
                return n.number;
            }
            if (n.kind.equals("nil")) {
                return "nil";
            }
            if (n.local != null && n.kind.equals("name") && n.parts.isEmpty()) {
                return frame[n.local.slot];
            }
            if (n.isPartial()) {
                Partial before = n.local != null ? (Partial) frame[n.local.slot] : new Partial(n.fun, List.of());
                if (got + n.parts.size() > 6000) {
                    throw new Stop(5);
                }
                got += n.parts.size();
                List<Object> all = new ArrayList<>(before.got);
                for (Node part : n.parts) {
                    all.add(putOff(part, frame));
                }
                return new Partial(before.fun, all);
            }
            if (told[1] == 3000) {
                throw new Stop(5);
            }
            told[1]++;
            told[2]++;
            Later later = new Later();
            later.node = n;
            later.frame = frame;
            return later;
        }
    }

    // ---------------------------------------------------------------- texts

    /** Makes texts of the right types, and breaks them. */
    private static final class Maker {
        private static final String[] SIGNS = {"+", "-", "*", "/", "=", "<"};
        private final Random random;
        private final List<int[]> signatures = new ArrayList<>();
        private final List<String> names = new ArrayList<>();
        private List<String> scopeNames;
        private List<Integer> scopeTypes;
        private int localsLeft;

        Maker(Random random) {
            this.random = random;
        }

        String program() {
            int count = 1 + random.nextInt(6);
            for (int f = 0; f < count; f++) {
                int parameters = random.nextInt(4) == 0 ? 0 : random.nextInt(5);
                int[] signature = new int[parameters + 1];
                boolean plain = random.nextInt(3) == 0;
                for (int i = 0; i < parameters; i++) {
                    int pick = random.nextInt(10);
                    signature[i] = plain || pick < 4 ? 0 : pick < 6 ? 1 : pick < 8 ? 2 + random.nextInt(4)
                        : 6 + random.nextInt(8);
                }
                signature[parameters] = random.nextInt(2);
                signatures.add(signature);
                names.add(random.nextInt(30) == 0 ? "f0" : "f" + f);
            }
            StringBuilder text = new StringBuilder();
            for (int f = 0; f < count; f++) {
                function(f, text);
            }
            return spaced(text.toString());
        }

        private String spaced(String text) {
            StringBuilder made = new StringBuilder();
            for (String token : text.trim().split(" +")) {
                boolean joins = made.length() > 0 && Character.isLetterOrDigit(made.charAt(made.length() - 1))
                    && Character.isLetterOrDigit(token.charAt(0));
                if (joins || random.nextInt(3) == 0) {
                    made.append(random.nextInt(20) == 0 ? "\n" : " ");
                }
                made.append(token);
            }
            return made.toString();
        }

        private void function(int f, StringBuilder text) {
            int[] signature = signatures.get(f);
            scopeNames = new ArrayList<>();
            scopeTypes = new ArrayList<>();
            localsLeft = 24;
            text.append(names.get(f));
            for (int i = 0; i + 1 < signature.length; i++) {
                String name = random.nextInt(40) == 0 ? "p0" : "p" + i;
                text.append(" ( ").append(name).append(" : ");
                String arrow = "";
                for (int base : Model.typesOf(signature[i])) {
                    text.append(arrow).append(base(base));
                    arrow = " -> ";
                }
                text.append(" )");
                scopeNames.add(name);
                scopeTypes.add(signature[i]);
            }
            int base = signature[signature.length - 1];
            text.append(" : ").append(base(base)).append(" = ");
            text.append(expression(base, 1 + random.nextInt(5))).append(" ; ");
        }

        private static String base(int base) {
            return base == 0 ? "int" : "list";
        }

        private String newName() {
            return random.nextInt(5) == 0 ? "f0" : "v" + random.nextInt(5);
        }

        private String expression(int type, int fuel) {
            int pick = random.nextInt(fuel <= 0 ? 3 : 12);
            if (type > 1) {
                return partial(type, fuel);
            }
            if (random.nextInt(200) == 0) {
                return expression(1 - type, fuel);
            }
            switch (pick) {
                case 0:
                case 1:
                case 2:
                    return call(type, fuel);
                case 3:
                    if (localsLeft < 2) {
                        return call(type, fuel);
                    }
                    return let(type, fuel);
                case 4:
                case 5:
                    return "if " + expression(0, fuel - 2) + " then " + expression(type, fuel - 1) + " else "
                        + expression(type, fuel - 1);
                case 6:
                case 7:
                    if (localsLeft < 2) {
                        return call(type, fuel);
                    }
                    return match(type, fuel);
                default:
                    return type == 1 ? call(type, fuel) : sum(fuel);
            }
        }

        private String let(int type, int fuel) {
            localsLeft--;
            String name = newName();
            int base = random.nextInt(3) == 0 ? 1 : 0;
            String one = expression(base, fuel - 1);
            scopeNames.add(name);
            scopeTypes.add(base);
            String two = expression(type, fuel - 1);
            scopeNames.remove(scopeNames.size() - 1);
            scopeTypes.remove(scopeTypes.size() - 1);
            return "let " + name + " : " + base(base) + " = " + one + " in " + two;
        }

        private String match(int type, int fuel) {
            localsLeft -= 2;
            String one = expression(1, fuel - 2);
            String two = expression(type, fuel - 2);
            String head = newName();
            String rest = newName();
            scopeNames.add(head);
            scopeTypes.add(0);
            scopeNames.add(rest);
            scopeTypes.add(1);
            String three = expression(type, fuel - 1);
            for (int i = 0; i < 2; i++) {
                scopeNames.remove(scopeNames.size() - 1);
                scopeTypes.remove(scopeTypes.size() - 1);
            }
            return "case " + one + " of empty -> " + two + " | " + head + " : " + rest + " -> " + three;
        }

        private String sum(int fuel) {
            int count = random.nextInt(4) == 0 ? 1 + random.nextInt(3) : 1;
            StringBuilder made = new StringBuilder(call(0, fuel - 1));
            boolean compared = false;
            for (int i = 0; i < count; i++) {
                int sign = random.nextInt(compared ? 4 : 6);
                compared |= sign > 3;
                made.append(' ').append(SIGNS[sign]).append(' ').append(call(0, fuel - 1));
            }
            return made.toString();
        }

        /** What a name is now, in the scope: the type of the innermost local, or -1. */
        private boolean isVisible(int i) {
            return scopeNames.lastIndexOf(scopeNames.get(i)) == i;
        }

        private String call(int type, int fuel) {
            int pick = random.nextInt(10);
            if (fuel > 0 && type == 1 && pick < 4) {
                return "cons " + atom(0, fuel - 1) + " " + atom(1, fuel - 1);
            }
            if (fuel > 0 && pick < 8) {
                return named(type, fuel);
            }
            return atom(type, fuel - 1);
        }

        private String named(int type, int fuel) {
            List<String> options = new ArrayList<>();
            List<int[]> takes = new ArrayList<>();
            for (int i = 0; i < scopeNames.size(); i++) {
                if (isVisible(i)) {
                    List<Integer> bases = Model.typesOf(scopeTypes.get(i));
                    if (bases.get(bases.size() - 1) == type) {
                        int weight = bases.size() > 1 ? 3 : 1;
                        for (int w = 0; w < weight; w++) {
                            options.add(scopeNames.get(i));
                            takes.add(bases.subList(0, bases.size() - 1).stream().mapToInt(b -> b).toArray());
                        }
                    }
                }
            }
            for (int f = 0; f < names.size(); f++) {
                int[] signature = signatures.get(f);
                if (signature[signature.length - 1] == type && !scopeNames.contains(names.get(f))) {
                    options.add(names.get(f));
                    takes.add(java.util.Arrays.copyOf(signature, signature.length - 1));
                }
            }
            if (options.isEmpty()) {
                return atom(type, fuel - 1);
            }
            int pick = random.nextInt(options.size());
            StringBuilder made = new StringBuilder(options.get(pick));
            for (int t : takes.get(pick)) {
                made.append(' ').append(atom(t, fuel - 1));
            }
            return made.toString();
        }

        private String partial(int type, int fuel) {
            List<Integer> want = Model.typesOf(type);
            List<String> options = new ArrayList<>();
            for (int i = 0; i < scopeNames.size(); i++) {
                if (isVisible(i)) {
                    List<Integer> bases = Model.typesOf(scopeTypes.get(i));
                    if (bases.equals(want)) {
                        options.add(scopeNames.get(i));
                    } else if (bases.size() == 3 && bases.subList(1, 3).equals(want)) {
                        options.add("( " + scopeNames.get(i) + " " + atom(bases.get(0), fuel - 1) + " )");
                    }
                }
            }
            for (int f = 0; f < names.size(); f++) {
                if (scopeNames.contains(names.get(f))) {
                    continue;
                }
                int[] signature = signatures.get(f);
                int given = signature.length - want.size();
                boolean fits = given >= 0;
                for (int i = 0; fits && i < want.size(); i++) {
                    fits = signature[given + i] == want.get(i);
                }
                if (fits && (given == 0 || fuel > -2)) {
                    StringBuilder made = new StringBuilder("( " + names.get(f));
                    for (int i = 0; i < given; i++) {
                        made.append(' ').append(atom(signature[i], fuel - 2));
                    }
                    options.add(made.append(" )").toString());
                }
            }
            if (options.isEmpty()) {
                return names.get(random.nextInt(names.size()));
            }
            return options.get(random.nextInt(options.size()));
        }

        private String atom(int type, int fuel) {
            if (type > 1) {
                return partial(type, fuel);
            }
            int pick = random.nextInt(10);
            if (fuel > 0 && pick < 5) {
                return "( " + expression(type, fuel - 1) + " )";
            }
            if (random.nextInt(40) == 0) {
                return "error";
            }
            if (pick < 9) {
                List<String> options = new ArrayList<>();
                for (int i = 0; i < scopeNames.size(); i++) {
                    if (isVisible(i) && scopeTypes.get(i) == type) {
                        options.add(scopeNames.get(i));
                    }
                }
                if (!options.isEmpty()) {
                    return options.get(random.nextInt(options.size()));
                }
            }
            return type == 1 ? "nil" : String.valueOf(random.nextInt(5));
        }

        String broken(String text) {
            int at = random.nextInt(text.length() + 1);
            int to = Math.min(text.length(), at + random.nextInt(4));
            String[] pieces = {"", " ", ")", "(", " let ", " in ", "->", "|", ">", "#", " nil", "=", "<", "99999999999",
                " abcdefghijklm ", " zz ", "int", "+", ";", " case ", " if ", "error", " 1 ", "\n", "\t", "of", "2147483648"};
            return text.substring(0, at) + pieces[random.nextInt(pieces.length)] + text.substring(to);
        }
    }

    /** Texts at the limits and one beyond them. */
    private static final class Limits {
        static List<String> texts() {
            List<String> texts = new ArrayList<>(List.of("", " ", "\n\n", "f", "f:int=1;", "f:int=1"));
            for (int n = 9; n <= 11; n++) {
                texts.add("f : int = 1" + "+1".repeat(n) + ";");
                texts.add("f : int = 1" + "*1".repeat(n) + ";");
                texts.add("f : int = 1" + "-1/1".repeat(n) + " < 2" + "+1".repeat(n) + ";");
                texts.add("f : int = 1" + "*1".repeat(n) + "+;");
            }
            for (int n = 28; n <= 31; n++) {
                texts.add("f : int = " + "(".repeat(n) + "1" + ")".repeat(n) + ";");
                texts.add("f : int = " + "(".repeat(n) + ")".repeat(n) + ";");
                texts.add("f : int = " + "(".repeat(n));
                texts.add("f : int = " + "if 1 then 2 else ".repeat(n) + "3;");
                texts.add("f : int = " + "let a : int = 1 in ".repeat(n) + "a;");
                texts.add("f : int = " + "let a : int = ".repeat(n) + "1" + " in a + a".repeat(n) + ";");
                texts.add("f (x : int) : int = " + "(let a : int = x in a) + ".repeat(9) + "0;"
                    + "g : int = f (" + "f (".repeat(n) + "1" + ")".repeat(n) + ");");
            }
            for (int n = 13; n <= 16; n++) {
                texts.add("f (x : list) : int = " + "case x of empty -> 0 | h : x -> ".repeat(n) + "h;");
                texts.add("f (x : list) (y : list) : int = " + "case x of empty -> 0 | h : x -> ".repeat(n) + "h;");
            }
            for (int n = 39; n <= 41; n++) {
                StringBuilder many = new StringBuilder();
                for (int f = 0; f < n; f++) {
                    many.append("f").append(f).append(":int=").append(f == 0 ? "1" : "f" + (f - 1)).append(";");
                }
                texts.add(many.toString());
                texts.add(many + "+");
            }
            for (int n = 7; n <= 9; n++) {
                StringBuilder many = new StringBuilder("f");
                for (int i = 0; i < n; i++) {
                    many.append("(p").append(i).append(":int)");
                }
                texts.add(many + ":int=p0+p" + (n - 1) + ";");
                texts.add(many + "(:int=1;");
            }
            for (int n = 298; n <= 302; n++) {
                texts.add("f:int=1;" + "\n" + "f".repeat(12) + ":int=2;".repeat(1) + "+ ".repeat(n * 4 - 13));
            }
            texts.add("a (x : int -> int -> int) (y : int -> int -> int) (z : int -> int -> int) (w : int -> int)"
                + " : int = x 1 (y 2 (z 3 (w 4)));");
            texts.add("a (x : int -> int -> int) (y : int -> int -> int) (z : int -> int -> int) (w : int) (v : int)"
                + " : int = x 1 (y 2 (z 3 v));");
            texts.add("b : int = 1; a (x : int -> int -> int) (y : int -> int -> int) (z : int -> int -> int) (w : int -> int)"
                + " (v : int) : int = x 1 (y 2 (z 3 v));");
            texts.add("a (x : int -> int -> int) (y : int -> int -> int) (z : int -> int) (w : int) (v : int)"
                + " (u : int) : int = x w (y v (z u));"
                + "b (f : int -> int) (g : int -> int) (h : int -> int) (i : int) (j : int) (k : int) (l : int)"
                + " : int = if f i then g (h j) else b g h f k j i l;");
            runs(texts);
            return texts;
        }

        /** Each TOKEN of a text that has all forms left out, and each kind of TOKEN put in or in its stead. */
        static List<String> oneTokenOff() {
            String[] whole = ("f ( a : int ) ( g : int -> list -> int ) : list = let c : int = g 1 nil * a - 2 in"
                + " if a = c then case cons a nil of empty -> nil | h : t -> cons ( h / 1 ) t else error ;"
                + " k : int = 1 < ( k ) ;").split(" ");
            String[] kinds = ("int list let in if then else case of empty nil cons error ( ) : = ; -> | + - * / <"
                + " a f 7 # 2147483648 abcdefghijklm").split(" ");
            List<String> texts = new ArrayList<>();
            for (int i = 0; i <= whole.length; i++) {
                String before = String.join(" ", java.util.Arrays.asList(whole).subList(0, i));
                String here = i < whole.length ? whole[i] : "";
                String behind = i < whole.length
                    ? String.join(" ", java.util.Arrays.asList(whole).subList(i + 1, whole.length)) : "";
                texts.add(before + " " + behind);
                for (String kind : kinds) {
                    texts.add(before + " " + kind + " " + behind);
                    texts.add(before + " " + kind + " " + here + " " + behind);
                }
            }
            return texts;
        }

        private static void runs(List<String> texts) {
            texts.add("from (n : int) : list = cons n (from (n + 1)); main : list = from 7;");
            texts.add("upto (a : int) (b : int) : list = if b < a then nil else cons a (upto (a + 1) b);"
                + "f49 : list = upto 1 49; f50 : list = upto 1 50; f51 : list = upto 1 51; g (n : int) : list = upto 1 n;");
            texts.add("down (n : int) : int = if n = 0 then 0 else down (n - 1);"
                + "deep (n : int) : int = if n = 0 then 0 else 1 + deep (n - 1);"
                + "d61 : int = deep 61; d62 : int = deep 62; d83 : int = deep 83; d100 : int = down 100; loop : int = loop;");
            texts.add("walk (l : list) (a : int) : int = case l of empty -> a | h : t -> walk t (a + h);"
                + "count (n : int) : list = if n < 1 then nil else cons n (count (n - 1));"
                + "main (n : int) : int = walk (count n) 0;");
            texts.add("self : int = let x : int = x2 in x; x2 : int = 1;");
            texts.add("id (x : int) : int = x; f : int = let a : int = id (id 1) in a / (a - 1);");
            // Many calls beside one another: all kinds of what is full.
            String tree = " (n : int) : int = if n < 1 then 1 else ";
            texts.add("t" + tree + "t (n - 1) + t (n - 1); m : int = t 9; o : int = t 10; p : int = t 11; q : int = t 12;");
            texts.add("c" + tree + "k (cons n nil) + c (n - 1) + c (n - 1); k (l : list) : int = case l of empty -> 0"
                + " | h : t -> h; m : int = c 9; o : int = c 10; p : int = c 11;");
            texts.add("c" + tree + "k (cons 1 nil) + c (n - 1) + c (n - 1); k (l : list) : int = case l of empty -> 0"
                + " | h : t -> h; m : int = c 10; o : int = c 11; p : int = c 12;");
            texts.add("c (n : int) (u : int) : int = k (cons 1 nil) + k (cons 1 nil) + k (cons 1 nil) + k (cons 1 nil) +"
                + " (if n < 1 then 0 else c (n - 1) 1 + c (n - 1) 1); k (l : list) : int = case l of empty -> 0"
                + " | h : t -> h; m : int = c 9 1; o : int = c 10 1; p : int = c 11 1;");
            texts.add("a (x : int) (y : int) : int = x + y; g (f : int -> int -> int) : int = h (f 1); h (f : int -> int)"
                + " : int = f 2; t (n : int) : int = if n = 0 then 0 else g a + g a + g a + t (n - 1) + t (n - 1);"
                + "m : int = t 7; o : int = t 8; p : int = t 9; q : int = t 10;");
            texts.add("a (x : int) (y : int) (z : int) : int = x + y * z; h (f : int -> int) : int = 1; "
                + "t (n : int) : int = if n = 0 then 0 else h (a 1 2) + h (a 1 2) + h (a 1 2) + t (n - 1) + t (n - 1);"
                + "m : int = t 7; o : int = t 8; p : int = t 9; q : int = t 10;");
            String locals = "let a : int = 1 in ".repeat(20);
            texts.add("l (n : int) : int = if n = 0 then " + locals + " 1 else l (n - 1) + l (n - 1);"
                + "m : int = l 8; o : int = l 9; p : int = l 10; q : int = l 11; r (n : int) : int = l 9 + l n;");
            texts.add("twice (f : int -> int) (x : int) : int = f (f x); inc (x : int) : int = x + 1;"
                + "m (n : int) : int = twice (twice inc) n; z : int = twice (twice (twice inc)) 0;");
            texts.add("three (a : int -> int) (b : int) (c : int) (d : int) : int = a b + c * d; neg (x : int) : int = 0 - x;"
                + "use (f : int -> int -> int) (n : int) : int = again (f n) n; again (f : int -> int) (n : int) : int = f n;"
                + "m (n : int) : int = use (three neg 5) n; o (n : int) : int = use (three (three neg 1 2) 5) n;");
            texts.add("m : int = 0 - 2147483647 - 1; o : int = m / (0 - 1); p : int = m - 1; q : int = 7 / (0 - 2);"
                + "r : int = (0 - 7) / 2; s : int = m * m; t : int = 2147483647 + 1;");
            texts.add("m : int = let a : int = 1 / 0 in let b : int = a in let c : int = b + 1 in 5;"
                + "o (a : int) : int = let b : int = a in let a : int = error in b;"
                + "p (a : list) : int = case a of empty -> 1 | a : a -> case a of empty -> 2 | b : c -> b;"
                + "q : int = p (cons 1 (cons 2 nil));");
        }
    }
}
