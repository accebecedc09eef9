/**
 * Section 4 of the document, and the promises that tell of it: the last STEP, the deepest WORKING, the
 * last of what is PUT OFF, of the CELLS, of the locals and of the ATOMS that a run may have, and the
 * first that it may not; the ends of ints and of lists.
 */
public final class RunEdgesTest extends Check {
    private static final int WELL = 1;
    private static final int DIVERGES = 2;
    private static final int SPENT = 3;
    private static final int DEEP = 4;
    private static final int FULL = 5;

    public static void main(String[] args) {
        oneStepEach();
        mostSteps();
        stepsOfWrongRuns();
        intsWrap();
        divisions();
        comparisons();
        conditions();
        putOffOrNot();
        workedOnce();
        atomsBehindThoseBefore();
        functionsWithinFunctions();
        deepest();
        deepThroughEachPart();
        deepBeforeSpent();
        putOffFull();
        cellsFull();
        localsFull();
        gotFull();
        fullAsItBegins();
        eachRunBeginsAnew();
        endsOfLists();
        stepsAlongLists();
        worksAlongLists();
        toldBeforeAndBehind();
        end();
    }

    private static void dueRun(String what, LazyStrict x, int f, int steps, boolean quick, int want) {
        due(what + ", run(" + f + ", " + steps + ", " + quick + ")", x.run(f, steps, quick), want);
    }

    // ---------------------------------------------------------------- steps

    /** A text's first function takes so many STEPS, and with one fewer it is SPENT. */
    private static void dueSteps(String text, int want, int lazy, int quick) {
        LazyStrict x = compiled(text);
        for (int turn = 0; turn < 2; turn++) {
            int steps = turn == 0 ? lazy : quick;
            dueRun(text, x, 0, steps, turn == 1, want);
            due("STEPS of " + text, x.told(0), steps);
            dueRun(text, x, 0, 50000, turn == 1, want);
            due("STEPS of " + text, x.told(0), steps);
            for (int fewer = 0; fewer < steps; fewer++) {
                dueRun(text, x, 0, fewer, turn == 1, SPENT);
                due("STEPS of " + text, x.told(0), fewer);
                due("number of " + text, x.told(5), 0);
            }
        }
    }

    private static void oneStepEach() {
        about = "To WORK an EXPRESSION is one STEP, as it begins (brackets are none)";
        dueSteps("m : int = 7;", WELL, 1, 1);
        dueSteps("m : int = (((7)));", WELL, 1, 1);
        dueSteps("m : int = error;", DIVERGES, 1, 1);
        dueSteps("m : int = 1 / 0;", DIVERGES, 3, 3);
        dueSteps("m : int = 1 / 0 + 1;", DIVERGES, 4, 4);
        dueSteps("m : int = 1 + 2 - 3;", WELL, 5, 5);
        dueSteps("m : int = (1 + (2)) - 3;", WELL, 5, 5);
        dueSteps("m : int = 1 < 2;", WELL, 3, 3);
        dueSteps("m : int = if 1 then 2 else 3 + 4;", WELL, 3, 3);
        dueSteps("m : int = if 0 then 2 else 3 + 4;", WELL, 5, 5);
        dueSteps("m : int = case nil of empty -> 1 | h : t -> h + h;", WELL, 3, 3);
        dueSteps("m : int = case cons 5 nil of empty -> 1 | h : t -> h + h;", WELL, 5, 5);
        dueSteps("m : int = case cons (1 + 1) nil of empty -> 1 | h : t -> h;", WELL, 6, 6);
        dueSteps("m : int = let a : int = 7 in 1;", WELL, 2, 2);
        dueSteps("m : int = let a : int = 7 in a;", WELL, 2, 3);
        dueSteps("m : int = let a : int = 1 + 2 in a;", WELL, 5, 5);
        dueSteps("m : int = let a : int = 1 + 2 in a + a;", WELL, 7, 7);
        dueSteps("m : int = let a : int = 1 + 2 in let b : int = a in b + a;", WELL, 8, 9);
        dueSteps("m : int = i; i : int = 3;", WELL, 2, 2);
        dueSteps("m : int = j 3; j (a : int) : int = a;", WELL, 2, 3);
        dueSteps("m : int = j (1 + 2); j (a : int) : int = a + a;", WELL, 7, 7);
        dueSteps("m : int = j (1 + 2); j (a : int) : int = 5;", WELL, 2, 2);
        dueSteps("m : int = j error; j (a : int) : int = 5;", WELL, 2, 2);
        dueSteps("m : int = j error; j (a : int) : int = a;", DIVERGES, 3, 2);
        dueSteps("m : int = u k; u (g : int -> int) : int = g 4; k (a : int) : int = a;", WELL, 3, 3);
        dueSteps("m : int = u (s 9); u (g : int -> int) : int = g 4; s (a : int) (b : int) : int = a - b;", WELL, 5, 5);
        dueSteps("m : list = nil;", WELL, 1, 1);
        dueSteps("m : list = cons 1 nil;", WELL, 1, 1);
        dueSteps("m : list = cons (1 + 1) nil;", WELL, 4, 4);
        dueSteps("m : list = cons 1 (cons 2 nil);", WELL, 2, 2);
        dueSteps("m : list = cons 1 (cons error nil);", DIVERGES, 3, 3);
    }

    /** Terms that need so many STEPS together, behind others: each its own and one for its sign. */
    private static String sumOf(int steps) {
        String[] names = {"d", "c", "b", "a", "p", "1"};
        int[] each = {30745, 2794, 253, 22, 2, 1};
        StringBuilder text = new StringBuilder("1");
        int left = steps - 1;
        int signs = 0;
        for (int i = 0; i < names.length; i++) {
            // One STEP alone can't be left over: the least are the two of + 1.
            while (left >= each[i] + 1 && left != each[i] + 2) {
                if (signs == 10) {
                    text.insert(0, '(').append(')');
                    signs = 0;
                }
                text.append('+').append(names[i]);
                left -= each[i] + 1;
                signs++;
            }
        }
        due("STEPS left over", left, 0);
        return text.toString();
    }

    private static void mostSteps() {
        about = "with at most so many STEPS; steps are not 0 .. 50000";
        String text = "p : int = 1; a : int = 1" + "+1".repeat(10) + "; b : int = a" + "+a".repeat(10) + "; c : int = b"
            + "+b".repeat(10) + "; d : int = c" + "+c".repeat(10) + ";";
        LazyStrict x = compiled(text + "m : int = " + sumOf(50000) + "; n : int = " + sumOf(50001) + ";"
            + "o : int = " + sumOf(49999) + ";");
        dueRun("50000 STEPS", x, 5, 50000, false, WELL);
        due("told(0)", x.told(0), 50000);
        dueRun("50000 STEPS", x, 5, 50000, true, WELL);
        dueRun("50000 STEPS", x, 5, 49999, false, SPENT);
        due("told(0)", x.told(0), 49999);
        dueRun("50001 STEPS", x, 6, 50000, false, SPENT);
        due("told(0)", x.told(0), 50000);
        dueRun("49999 STEPS", x, 7, 49999, false, WELL);
        dueRun("49999 STEPS", x, 7, 49998, false, SPENT);
        illegal("run of 50001 steps", () -> x.run(5, 50001, false));
        illegal("run of -1 steps", () -> x.run(5, -1, false));
        dueRun("no STEPS", x, 5, 0, false, SPENT);
        dueTold(x, "no STEPS", 0, 0, 0, 0, 0, 0, 0, 0, 1, 0);
    }

    private static void stepsOfWrongRuns() {
        about = "run: IllegalArgumentException, and these stay";
        LazyStrict x = compiled("f (a : int) (b : int) : int = a * 10 + b; g : int = 3; h (l : list) : int = 1;"
            + "i (k : int -> int) : int = 1; j (a : int) (l : list) : int = 1;");
        dueRun("no arguments", x, 1, 10, false, WELL);
        illegal("two too few", () -> x.run(0, 100, false));
        x.argument(4);
        illegal("one too few", () -> x.run(0, 100, false));
        illegal("one too many", () -> x.run(1, 100, false));
        illegal("a list is wanted", () -> x.run(2, 100, false));
        illegal("a function is wanted", () -> x.run(3, 100, false));
        x.argument(5);
        illegal("steps", () -> x.run(0, 50001, false));
        illegal("steps", () -> x.run(0, -1, false));
        illegal("int and list", () -> x.run(4, 100, false));
        outside("no such FUNCTION", () -> x.run(5, 100, false));
        outside("no such FUNCTION before all else", () -> x.run(-1, -1, false));
        due("told(5) of the run before", x.told(5), 3);
        dueRun("two arguments", x, 0, 100, false, WELL);
        due("told(5)", x.told(5), 45);
        illegal("they are used up", () -> x.run(0, 100, false));
        due("the first argument", x.argument(1), 1);
        x.argument(2);
        dueRun("used up by a run that is SPENT, too", x, 0, 0, false, SPENT);
        due("the first argument", x.argument(1), 1);
    }

    // ---------------------------------------------------------------- numbers

    private static int reckoned(String sign, int a, int b) {
        return numbered("f (a : int) (b : int) : int = a " + sign + " b;", 0, a, b);
    }

    private static void intsWrap() {
        about = "ints wrap";
        int least = Integer.MIN_VALUE;
        int most = Integer.MAX_VALUE;
        int[] edges = {least, least + 1, -65536, -2, -1, 0, 1, 2, 65536, most - 1, most};
        for (int a : edges) {
            for (int b : edges) {
                due(a + " + " + b, reckoned("+", a, b), (int) ((long) a + b));
                due(a + " - " + b, reckoned("-", a, b), (int) ((long) a - b));
                due(a + " * " + b, reckoned("*", a, b), (int) ((long) a * b));
            }
        }
        due("the greatest NUMBER and 1", numbered("f : int = 2147483647 + 1;", 0), least);
    }

    private static void divisions() {
        about = "/ by 0 DIVERGES";
        int least = Integer.MIN_VALUE;
        int most = Integer.MAX_VALUE;
        due("the least by -1", reckoned("/", least, -1), least);
        due("the least by 1", reckoned("/", least, 1), least);
        due("the least by itself", reckoned("/", least, least), 1);
        due("the greatest by the least", reckoned("/", most, least), 0);
        due("the least by the greatest", reckoned("/", least, most), -1);
        due("0 by -1", reckoned("/", 0, -1), 0);
        due("7 by -2", reckoned("/", 7, -2), -3);
        due("-7 by 2", reckoned("/", -7, 2), -3);
        due("-7 by -2", reckoned("/", -7, -2), 3);
        LazyStrict x = compiled("f (a : int) (b : int) : int = a / b;");
        for (int a : new int[] {least, -1, 0, 1, most}) {
            for (int b : new int[] {-1, 0, 1}) {
                due(a + " / " + b, run(x, 0, 10, true, a, b), b == 0 ? DIVERGES : WELL);
            }
        }
    }

    private static void comparisons() {
        about = "= < 1 or 0";
        int[] edges = {Integer.MIN_VALUE, Integer.MIN_VALUE + 1, -1, 0, 1, Integer.MAX_VALUE - 1, Integer.MAX_VALUE};
        for (int a : edges) {
            for (int b : edges) {
                due(a + " = " + b, reckoned("=", a, b), a == b ? 1 : 0);
                due(a + " < " + b, reckoned("<", a, b), a < b ? 1 : 0);
            }
        }
    }

    private static void conditions() {
        about = "if, case: the first part, then one of the others";
        for (int a : new int[] {Integer.MIN_VALUE, -1, 0, 1, 2, Integer.MAX_VALUE}) {
            due("if " + a, numbered("f (a : int) : int = if a then 5 else 6;", 0, a), a == 0 ? 6 : 5);
        }
        due("the other one is not WORKED", numbered("f : int = if 1 then 5 else error;", 0), 5);
        due("the other one is not WORKED", numbered("f : int = if 0 then error else 6;", 0), 6);
        due("empty", numbered("f : int = case nil of empty -> 5 | h : t -> error;", 0), 5);
        due("a CELL", numbered("f : int = case cons error error of empty -> error | h : t -> 6;", 0), 6);
    }

    // ---------------------------------------------------------------- what is put off

    private static void duePutOff(String text, int count) {
        LazyStrict x = compiled(text);
        dueRun(text, x, 0, 1000, false, WELL);
        due("PUT OFF by " + text, x.told(1), count);
    }

    private static void putOffOrNot() {
        about = "To PUT OFF";
        String j = " j (a : int) : int = 1; l (a : list) : int = 1; i : int = 1; k (g : int -> int) : int = 1;"
            + " s (a : int) (b : int) : int = 1;";
        duePutOff("m : int = j 1;" + j, 0);
        duePutOff("m : int = j (((1)));" + j, 0);
        duePutOff("m : int = l nil;" + j, 0);
        duePutOff("m : int = l ((nil));" + j, 0);
        duePutOff("m : int = let a : int = 5 in j a;" + j, 0);
        duePutOff("m : int = let a : int = 5 in j ((a));" + j, 0);
        duePutOff("m : int = let a : int = 1 + 1 in j a;" + j, 1);
        duePutOff("m : int = let a : int = 1 + 1 in let b : int = a in j b;" + j, 1);
        duePutOff("m : int = k j;" + j, 0);
        duePutOff("m : int = k (s 1);" + j, 0);
        duePutOff("m : int = k (s (1 + 1));" + j, 1);
        duePutOff("m : int = k (s error);" + j, 1);
        duePutOff("m : int = j i;" + j, 1);
        duePutOff("m : int = j (j 1);" + j, 1);
        duePutOff("m : int = j error;" + j, 1);
        duePutOff("m : int = j (1 + 1);" + j, 1);
        duePutOff("m : int = j (if 1 then 1 else 1);" + j, 1);
        duePutOff("m : int = j (let a : int = 1 in a);" + j, 1);
        duePutOff("m : int = j (case nil of empty -> 1 | h : t -> 1);" + j, 1);
        duePutOff("m : int = l (cons 1 nil);" + j, 1);
        duePutOff("m : list = cons 1 nil;", 0);
        duePutOff("m : list = cons (1 + 1) nil;", 1);
        duePutOff("m : list = cons (1 + 1) (cons 1 nil);", 2);
    }

    private static void workedOnce() {
        about = "if what it holds was PUT OFF, and is not done, it is WORKED now, and kept";
        LazyStrict x = compiled("m : int = let a : int = i in a + a + a; i : int = 1;"
            + "n : int = let a : int = i in let b : int = a in j a b; j (a : int) (b : int) : int = b + a;");
        dueRun("three times", x, 0, 100, false, WELL);
        due("calls", x.told(8), 2);
        due("not WORKED to the end", x.told(2), 0);
        dueRun("by two NAMES", x, 2, 100, false, WELL);
        due("calls", x.told(8), 3);
        due("PUT OFF", x.told(1), 1);
        about = "of these those that were not WORKED to the end";
        LazyStrict y = compiled("m : int = let a : int = error in 1; n : int = let a : int = 1 + error in a;"
            + "o : int = let a : int = 1 + 1 in let b : int = a + 1 in b; p : int = o;");
        dueRun("not WORKED", y, 0, 100, false, WELL);
        due("told(2)", y.told(2), 1);
        dueRun("begun", y, 1, 100, false, DIVERGES);
        due("told(2)", y.told(2), 1);
        dueRun("all", y, 2, 100, false, WELL);
        due("told(2)", y.told(2), 0);
        // let, let, b, +, a, +, 1, 1: behind these a is done, and b is behind one more STEP.
        dueRun("both begun", y, 2, 7, false, SPENT);
        due("told(2)", y.told(2), 2);
        dueRun("one of them done", y, 2, 8, false, SPENT);
        due("told(2)", y.told(2), 1);
        dueRun("both done", y, 2, 9, false, WELL);
        due("told(2)", y.told(2), 0);
    }

    private static void atomsBehindThoseBefore() {
        about = "A local that is a function has its ATOMS behind those that it got before";
        StringBuilder digits = new StringBuilder("a");
        for (int i = 1; i < 8; i++) {
            digits.insert(0, '(').append(")*10+").append((char) ('a' + i));
        }
        String b = "b (a:int)(b:int)(c:int)(d:int)(e:int)(f:int)(g:int)(h:int):int=" + digits + ";";
        String use = "two (x:int)(k:int->int->int)(y:int):int=k x y;one (x:int)(k:int->int)(y:int):int=k y;"
            + "both (x:int)(y:int)(k:int->int->int):int=one 0 (k x) y;";
        due("six, then two", numbered(b + use + "m:int=two 7 (b 1 2 3 4 5 6) 8;", 4), 12345678);
        due("seven, then one", numbered(b + use + "m:int=one 0 (b 1 2 3 4 5 6 7) 8;", 4), 12345678);
        due("six, one, one", numbered(b + use + "m:int=both 7 8 (b 1 2 3 4 5 6);", 4), 12345678);
        due("all are PUT OFF", numbered(b + use + "m:int=both (3+4) (4+4) (b (0+1) (1+1) 3 (2+2) 5 (3+3));", 4), 12345678);
        String s = "s (a:int)(b:int):int=a*10+b;";
        due("none, then two", numbered(s + use + "m:int=two 7 s 8;", 4), 78);
        due("none, one, one", numbered(s + use + "m:int=both 7 8 s;", 4), 78);
        // A function that got ATOMS is used twice, with others behind them.
        due("twice", numbered(s + "u (k:int->int):int=k 1*100+k 2;m:int=u (s 3);", 2), 3132);
    }

    private static void functionsWithinFunctions() {
        about = "a NAME with fewer ATOMS is a function that got these, PUT OFF";
        String others = "k (g : int -> int) (a : int) : int = g (a + 1); id (a : int) : int = a; use (g : int -> int) : int = g 0;";
        for (int count = 1; count <= 29; count++) {
            String text = others + "m : int = use " + "(k ".repeat(count) + "id" + ")".repeat(count) + ";";
            due(count + " within one another", numbered(text, 3), count);
        }
        dueFaultAt(3, others + "m : int = use " + "(k ".repeat(29) + "(^k id)" + ")".repeat(29) + ";");
    }

    // ---------------------------------------------------------------- depth

    /**
     * Functions whose first one comes to the last one's EXPRESSION when so many WORKINGS are within one
     * another, this one counted: each has some signs and the next one's NAME at its left end.
     */
    private static String chainTo(int depth, String last, String base) {
        StringBuilder text = new StringBuilder();
        int left = depth - 1;
        int count = 0;
        while (left > 0) {
            int links = Math.min(left, 11);
            text.append("c").append(count).append(":int=c").append(count + 1).append("+1".repeat(links - 1)).append(";");
            left -= links;
            count++;
        }
        return text + "c" + count + ":" + base + "=" + last + ";";
    }

    private static void deepest() {
        about = "WORKINGS within one another: at most 250 (the 251st: DEEP)";
        for (boolean quick : new boolean[] {false, true}) {
            LazyStrict x = compiled(chainTo(250, "7", "int"));
            dueRun("250", x, 0, 50000, quick, WELL);
            due("told(4)", x.told(4), 250);
            due("told(5) is no 0", x.told(5) > 0 ? 1 : 0, 1);
            LazyStrict y = compiled(chainTo(251, "7", "int"));
            dueRun("251", y, 0, 50000, quick, DEEP);
            dueTold(y, "251", 250, 0, 0, 0, 250, 0, 0, 0);
            LazyStrict z = compiled(chainTo(249, "7", "int"));
            dueRun("249", z, 0, 50000, quick, WELL);
            due("told(4)", z.told(4), 249);
        }
        due("one", compiled("f : int = 1;").told(4), 0);
        LazyStrict one = compiled("f : int = 1;");
        dueRun("one", one, 0, 1, false, WELL);
        due("told(4)", one.told(4), 1);
    }

    /** What goes so many WORKINGS deep, itself counted, as the last one of a chain. */
    private static void dueDepth(String last, int lazy, int quick, int want) {
        String others = "j (a:int):int=a;u (g:int->int):int=g 4;k (l:list):int=case l of empty->0|h:t->h;";
        for (int turn = 0; turn < 2; turn++) {
            int height = turn == 0 ? lazy : quick;
            LazyStrict fits = compiled(chainTo(251 - height, last, "int") + others);
            dueRun(last + " to 250", fits, 0, 50000, turn == 1, want);
            due(last + ", told(4)", fits.told(4), 250);
            LazyStrict over = compiled(chainTo(252 - height, last, "int") + others);
            dueRun(last + " to 251", over, 0, 50000, turn == 1, DEEP);
            due(last + ", told(4)", over.told(4), 250);
        }
    }

    private static void deepThroughEachPart() {
        about = "the 251st: DEEP, wherever it begins";
        dueDepth("7", 1, 1, WELL);
        dueDepth("error", 1, 1, DIVERGES);
        dueDepth("1 + 2", 2, 2, WELL);
        dueDepth("1 / 0", 2, 2, DIVERGES);
        dueDepth("1 < (1 + 2)", 3, 3, WELL);
        dueDepth("if 1 then 2 else 3", 2, 2, WELL);
        dueDepth("if 1 + 1 then 2 else 3", 3, 3, WELL);
        dueDepth("if 1 then 2 + 2 else 3", 3, 3, WELL);
        dueDepth("if 0 then 2 else 3 + 3", 3, 3, WELL);
        dueDepth("case nil of empty -> 1 | h : t -> 2 + 2", 2, 2, WELL);
        dueDepth("case cons 1 nil of empty -> 1 | h : t -> 2 + h", 3, 3, WELL);
        dueDepth("let a : int = 1 in 2", 2, 2, WELL);
        dueDepth("let a : int = 1 in a", 2, 2, WELL);
        dueDepth("let a : int = 1 + 2 in a", 4, 3, WELL);
        dueDepth("let a : int = error in a", 3, 2, DIVERGES);
        dueDepth("j 5", 2, 2, WELL);
        dueDepth("j (1 + 2)", 4, 3, WELL);
        dueDepth("u j", 3, 3, WELL);
        dueDepth("k (cons 1 nil)", 4, 3, WELL);
        dueDepth("k (cons (1 + 1) nil)", 5, 5, WELL);
    }

    private static void deepBeforeSpent() {
        about = "DEEP, before SPENT";
        LazyStrict x = compiled(chainTo(251, "7", "int"));
        dueRun("both at once", x, 0, 250, false, DEEP);
        due("told(0)", x.told(0), 250);
        dueRun("SPENT one earlier", x, 0, 249, false, SPENT);
        dueTold(x, "SPENT one earlier", 249, 0, 0, 0, 249);
        LazyStrict y = compiled(chainTo(250, "7", "int"));
        dueRun("SPENT behind the deepest", y, 0, 250, false, SPENT);
        dueTold(y, "SPENT behind the deepest", 250, 0, 0, 0, 250);
    }

    // ---------------------------------------------------------------- full

    /** So many times a call, with the NAMES c, x and i of functions that make it 1000, 100 and 10 times. */
    private static String times(int count, String call) {
        String[] names = {"c", "x", "i", call};
        int[] each = {1000, 100, 10, 1};
        StringBuilder text = new StringBuilder("0");
        int left = count;
        int signs = 0;
        for (int i = 0; i < 4; i++) {
            for (; left >= each[i]; left -= each[i]) {
                if (signs == 9) {
                    text.insert(0, '(').append(')');
                    signs = 0;
                }
                text.append('+').append(names[i]);
                signs++;
            }
        }
        return "(" + text + ")";
    }

    private static String often(String call) {
        return "i:int=" + call + ("+" + call).repeat(9) + ";x:int=i+i+i+i+i+i+i+i+i+i;c:int=x+x+x+x+x+x+x+x+x+x;";
    }

    /** One more than there may be: it fits behind one fewer, and not behind as many as may be. */
    private static void dueLast(String others, String call, int most, String one, int what) {
        String text = often(call) + "m:int=" + times(most - 1, call) + "+" + one + ";n:int=" + times(most, call) + "+"
            + one + ";o:int=" + times(most, call) + ";" + others;
        LazyStrict x = compiled(text);
        dueRun("the last with " + one, x, 3, 50000, false, WELL);
        due("told(" + what + ") of " + one, x.told(what), most);
        dueRun("one too many with " + one, x, 4, 50000, false, FULL);
        due("told(" + what + ") of " + one, x.told(what), most);
        due("told(5) of " + one, x.told(5), 0);
        dueRun("as many as may be", x, 5, 50000, false, WELL);
        due("told(" + what + ")", x.told(what), most);
    }

    private static void putOffFull() {
        about = "FULL: the 3001st of what was PUT OFF and counted";
        String others = "p (n:int):int=1;z:int=1;l (n:list):int=1;u (g:int->int):int=g (1+1);v (g:int->int):int=1;"
            + "q (a:int)(b:int):int=1;w (g:int->int->int):int=v (g (1+1));";
        String[] ones = {"p (1+1)", "p z", "p error", "l (cons 1 nil)", "(let a:int=1+1 in 1)", "u p", "v (q (1+1))", "w q",
            "(case cons (1+1) nil of empty->0|h:t->1)", "(case cons 1 (cons 1 nil) of empty->0|h:t->1)"};
        for (String one : ones) {
            dueLast(others, "p (1+1)", 3000, one, 1);
        }
        // What is not counted is taken even when there are 3000.
        String[] none = {"p 1", "(let a:int=1 in p a)", "l nil", "v p", "v (q 1)", "(case cons 1 nil of empty->0|h:t->1)"};
        for (String one : none) {
            LazyStrict x = compiled(often("p (1+1)") + "m:int=" + times(3000, "p (1+1)") + "+" + one + ";" + others);
            dueRun("3000, and " + one, x, 3, 50000, false, WELL);
            due("told(1)", x.told(1), 3000);
        }
        about = "cons: a CELL, then both parts PUT OFF";
        LazyStrict x = compiled(often("p (1+1)") + "m:int=" + times(3000, "p (1+1)")
            + "+(case cons (1+1) nil of empty->0|h:t->1);" + others);
        dueRun("the 3001st in a CELL", x, 3, 50000, false, FULL);
        due("told(3)", x.told(3), 1);
        // Strict ones are not PUT OFF at all.
        LazyStrict y = compiled(often("s (1+1)") + "m:int=" + times(3001, "s (1+1)") + "; s (n:int):int=n;");
        dueRun("3001 STRICT ones, QUICK", y, 3, 50000, true, WELL);
        due("told(1)", y.told(1), 0);
        due("told(9)", y.told(9), 3001);
        dueRun("3001 STRICT ones, not QUICK", y, 3, 50000, false, FULL);
        due("told(9)", y.told(9), 0);
    }

    private static void cellsFull() {
        about = "FULL: the 3001st CELL";
        String one = "k (cons 1 nil)";
        String others = "k (l:list):int=case l of empty->0|h:t->1;";
        String match = "(case cons (1+1) nil of empty->0|h:t->1)";
        LazyStrict x = compiled(often(one) + "m:int=" + times(3000, one) + ";n:int=" + times(3001, one) + ";o:int="
            + times(2999, one) + "+" + match + ";p:int=" + times(3000, one) + "+" + match + ";" + others);
        dueRun("3000 CELLS", x, 3, 50000, true, WELL);
        due("told(3)", x.told(3), 3000);
        due("told(5)", x.told(5), 3000);
        dueRun("3001 CELLS", x, 4, 50000, true, FULL);
        due("told(3)", x.told(3), 3000);
        dueRun("3000 CELLS", x, 5, 50000, true, WELL);
        due("told(1)", x.told(1), 1);
        dueRun("3001 CELLS: no part of the last is PUT OFF", x, 6, 50000, true, FULL);
        due("told(3)", x.told(3), 3000);
        due("told(1)", x.told(1), 0);
    }

    private static void localsFull() {
        about = "FULL: the call with which all that began would have more than 30000 locals together";
        String wide = "w (n:int):int=" + "let a:int=1 in ".repeat(29) + "1;";
        String others = wide + "y (a:int):int=1;z:int=1;u (g:int->int):int=g 1;";
        // 999 calls have 29970: what is behind them fits with thirty more, and not with thirty-one.
        String[] thirty = {"w 1", "u y" + "+u y".repeat(9) + "+z", "(y 1+y 1+y 1+y 1+y 1+y 1+y 1+y 1+y 1+y 1)"
            + "+u y+u y+u y+u y+u y+u y+u y+u y+u y+u y", "z+w 1"};
        int[] locals = {30, 20, 30, 30};
        for (int i = 0; i < thirty.length; i++) {
            String behind = "(" + thirty[i] + ")" + "+y 1".repeat(30 - locals[i]);
            LazyStrict x = compiled(often("w 1") + "m:int=" + times(999, "w 1") + "+(" + behind + ");n:int="
                + times(999, "w 1") + "+(" + behind + ")+y 1;" + others);
            dueRun("30000 locals: " + thirty[i], x, 3, 50000, false, WELL);
            int calls = x.told(8);
            dueRun("30001 locals: " + thirty[i], x, 4, 50000, false, FULL);
            due("told(8): the last call is not begun", x.told(8), calls);
        }
        LazyStrict own = compiled(often("w 1") + "m (a:int):int=" + times(1000, "w 1") + ";n (a:int):int="
            + times(999, "w 1") + "+w2;w2:int=" + "let a:int=1 in ".repeat(29) + "1;" + others);
        due("run()'s own one counts, too", run(own, 3, 50000, false, 1), FULL);
        due("30000 with run()'s own one", run(own, 4, 50000, false, 1), WELL);
        LazyStrict none = compiled(often("w 1") + "m:int=" + times(1000, "w 1") + "+z;n:int=" + times(1000, "w 1")
            + "+u y;" + others);
        dueRun("30000, and a call without locals", none, 3, 50000, false, WELL);
        dueRun("30000, and a call by a local", none, 4, 50000, false, FULL);
    }

    private static void gotFull() {
        about = "FULL: the function with fewer ATOMS with which all of them would have got more than 6000";
        String others = "h (f:int->int->int):int=1;e (f:int->int):int=1;"
            + "b (p:int)(q:int)(r:int)(s:int)(t:int)(u:int)(v:int)(w:int):int=p;d (p:int)(q:int)(r:int):int=p;"
            + "y (p:int)(q:int):int=p;l (f:int->int->int):int=e (f (1+1));k (f:int->int):int=1;";
        String six = "h (b 1 2 3 4 5 6)";
        String[] ones = {"h (d (1+1))", "e (y (1+1))", "l y"};
        for (String one : ones) {
            LazyStrict x = compiled(often(six) + "m:int=" + times(999, six) + "+h (d 1)+e (d 1 2)+e (d 1 2)+" + one + ";n:int="
                + times(1000, six) + "+" + one + ";o:int=" + times(1000, six) + "+h y+e k2;k2 (a:int):int=1;" + others);
            dueRun("6000 ATOMS with " + one, x, 3, 50000, false, WELL);
            due("told(1)", x.told(1), 1);
            dueRun("6001 ATOMS with " + one, x, 4, 50000, false, FULL);
            due("told(1): before they are PUT OFF", x.told(1), 0);
            dueRun("6000, and functions without ATOMS", x, 5, 50000, false, WELL);
        }
        LazyStrict bare = compiled(often("t s") + "m:int=" + times(7001, "t s") + ";t (g:int->int->int):int=g 0 1;"
            + "s (a:int)(b:int):int=b;");
        dueRun("7001 functions without ATOMS", bare, 3, 50000, false, WELL);
        due("told(5)", bare.told(5), 7001);
        LazyStrict single = compiled(often("t (s 1)") + "m:int=" + times(6000, "t (s 1)") + ";n:int="
            + times(6001, "t (s 1)") + ";t (g:int->int):int=g 2;s (a:int)(b:int):int=a*b;");
        dueRun("6000 functions with one ATOM", single, 3, 50000, false, WELL);
        due("told(5)", single.told(5), 12000);
        dueRun("6001 functions with one ATOM", single, 4, 50000, false, FULL);
        about = "each the ATOMS that stand behind its NAME alone";
        // l (d 1): one behind d, one behind f; not two of the one that got both.
        LazyStrict x = compiled(often(six) + "m:int=" + times(999, six) + "+h (d 1)+h (d 1)+l (d 1)+l (d 1);n:int="
            + times(999, six) + "+h (d 1)+h (d 1)+h (d 1)+l (d 1)+l (d 1);" + others);
        dueRun("6000 ATOMS", x, 3, 50000, false, WELL);
        dueRun("6001 ATOMS", x, 4, 50000, false, FULL);
        about = "two ATOMS of one function";
        LazyStrict two = compiled(often(six) + "m:int=" + times(999, six) + "+e (d 1 1)+e (d 1 1)+e (d 1 1);n:int="
            + times(999, six) + "+h (d 1)+e (d 1 1)+e (d 1 1)+e (d (1+1) 1);" + others);
        dueRun("6000 ATOMS", two, 3, 50000, false, WELL);
        dueRun("6001 ATOMS", two, 4, 50000, false, FULL);
        due("told(1)", two.told(1), 0);
    }

    private static void fullAsItBegins() {
        about = "as it begins, behind its ATOMS";
        String others = "w (n:int):int=" + "let a:int=1 in ".repeat(29) + "1;s (n:int):int=n;y (n:int):int=1;";
        LazyStrict x = compiled(often("w 1") + "m:int=" + times(1000, "w 1") + "+y (1+1);n:int=" + times(1000, "w 1")
            + "+s (1+1);o:int=" + times(1000, "w 1") + "+s error;" + others);
        dueRun("PUT OFF before", x, 3, 50000, false, FULL);
        due("told(1)", x.told(1), 1);
        int steps = x.told(0);
        dueRun("FULL before the next STEP", x, 3, steps, false, FULL);
        dueRun("SPENT before", x, 3, steps - 1, false, SPENT);
        dueRun("WORKED before", x, 4, 50000, true, FULL);
        due("told(9)", x.told(9), 1);
        due("told(1)", x.told(1), 0);
        dueRun("an ATOM that DIVERGES is before it", x, 5, 50000, true, DIVERGES);
        dueRun("an ATOM that would, and is PUT OFF", x, 5, 50000, false, FULL);
    }

    /** Each run uses more than half of what one may have: nothing of one is left in the next. */
    private static void eachRunBeginsAnew() {
        about = "a run has all of it for itself";
        LazyStrict got = compiled(often("t (s 1)") + "m:int=" + times(4000, "t (s 1)") + ";t (g:int->int):int=g 2;"
            + "s (a:int)(b:int):int=a*b;");
        LazyStrict later = compiled(often("k (cons (1+1) nil)") + "m:int=" + times(1400, "k (cons (1+1) nil)")
            + ";k (l:list):int=case l of empty->0|h:t->h;");
        LazyStrict wide = compiled(often("w 1") + "m:int=" + times(900, "w 1") + ";w (n:int):int="
            + "let a:int=n in ".repeat(29) + "a;");
        for (int turn = 0; turn < 4; turn++) {
            dueRun("functions with fewer ATOMS", got, 3, 50000, turn % 2 == 1, WELL);
            due("told(5)", got.told(5), 8000);
            dueRun("what is PUT OFF, and CELLS", later, 3, 50000, false, WELL);
            dueTold(later, "what is PUT OFF, and CELLS", later.told(0), 2800, 0, 1400, later.told(4), 2800);
            dueRun("locals", wide, 3, 50000, false, WELL);
            due("told(5)", wide.told(5), 900);
        }
    }

    // ---------------------------------------------------------------- lists

    private static void endsOfLists() {
        about = "up to nil, or to the 50th CELL (whose second part is not)";
        LazyStrict x = compiled("upto (a : int) (b : int) : list = if b < a then nil else cons a (upto (a + 1) b);"
            + "row (a : int) (b : int) : list = if b < a then error else cons a (row (a + 1) b);"
            + "with (a : int) (b : int) : list = cons (if a = b then error else a) (with (a + 1) b);"
            + "none : list = nil;");
        for (int n : new int[] {0, 1, 2, 48, 49, 50, 51, 52}) {
            int gone = Math.min(n, 50);
            for (boolean quick : new boolean[] {false, true}) {
                due("up to " + n, run(x, 0, 5000, quick, 1, n), WELL);
                dueAlong(x, gone, n < 50 ? 1 : 0);
                due("CELLS", x.told(3), gone);
                due("an error behind " + n, run(x, 1, 5000, quick, 1, n), n < 50 ? DIVERGES : WELL);
                dueAlong(x, gone, 0);
                due("an error in CELL " + n, run(x, 2, 5000, quick, 1, n), n >= 1 && n <= 50 ? DIVERGES : WELL);
                dueAlong(x, n >= 1 && n <= 50 ? n - 1 : 50, 0);
            }
        }
        dueRun("nil", x, 3, 1, false, WELL);
        dueAlong(x, 0, 1);
        due("the 50th's second part", run(x, 0, 5000, false, 1, 50), WELL);
        due("is not WORKED", x.told(2), 1);
        due("49, and nil", run(x, 0, 5000, false, 1, 49), WELL);
        due("all are WORKED", x.told(2), 0);
    }

    private static void dueAlong(LazyStrict x, int gone, int nil) {
        due("told(6)", x.told(6), gone);
        due("told(7)", x.told(7), nil);
        due("told(5)", x.told(5), 0);
        if (gone > 0) {
            due("element(0)", x.element(0), 1);
            due("the last element", x.element(gone - 1), gone);
        }
        outside("element(-1)", () -> x.element(-1));
        outside("element(" + gone + ")", () -> x.element(gone));
    }

    private static void stepsAlongLists() {
        about = "SPENT where CELLS are gone along";
        LazyStrict x = compiled("from (n : int) : list = cons n (from (n + 1));");
        due("run", run(x, 0, 50000, false, 1), WELL);
        int steps = x.told(0);
        due("the last STEP", run(x, 0, steps, false, 1), WELL);
        dueAlong(x, 50, 0);
        due("one fewer", run(x, 0, steps - 1, false, 1), SPENT);
        dueAlong(x, 49, 0);
        due("one", run(x, 0, 1, false, 1), SPENT);
        dueAlong(x, 1, 0);
        due("none", run(x, 0, 0, false, 1), SPENT);
        dueAlong(x, 0, 0);
    }

    private static void worksAlongLists() {
        about = "first what a CELL's first part holds is WORKED (if it was PUT OFF), then its second part";
        LazyStrict x = compiled("one : list = cons error error; two : list = cons 1 error; three : list = cons error nil;"
            + "same : list = let a : int = 1 + 1 in cons a (cons a nil); tail : list = let t : list = cons 1 nil in cons 2 t;"
            + "max : list = cons 2147483647 (cons (0 - 2147483647 - 1) nil);");
        dueRun("the first part first", x, 0, 100, false, DIVERGES);
        dueTold(x, "the first part first", 2, 2, 2, 1, 1, 0, 0, 0, 1, 0);
        dueRun("a NUMBER is itself", x, 1, 100, false, DIVERGES);
        dueTold(x, "a NUMBER is itself", 2, 1, 1, 1, 1, 0, 1, 0, 1, 0);
        dueRun("an error in the only CELL", x, 2, 100, false, DIVERGES);
        dueTold(x, "an error in the only CELL", 2, 1, 1, 1, 1, 0, 0, 0, 1, 0);
        dueRun("what is done is not WORKED again", x, 3, 100, false, WELL);
        dueTold(x, "what is done is not WORKED again", 6, 2, 0, 2, 2, 0, 2, 1, 1, 0);
        dueRun("a local is what it holds", x, 4, 100, false, WELL);
        dueTold(x, "a local is what it holds", 3, 1, 0, 2, 2, 0, 2, 1, 1, 0);
        dueRun("the greatest and the least", x, 5, 100, false, WELL);
        due("element(0)", x.element(0), Integer.MAX_VALUE);
        due("element(1)", x.element(1), Integer.MIN_VALUE);
        about = "DEEP where CELLS are gone along: they are not within one another";
        for (int depth = 250; depth <= 251; depth++) {
            LazyStrict deep = compiled(chainTo(depth, "7", "int") + "m : list = cons c0 (cons 2 nil);");
            int m = deep.functions() - 1;
            // m's cons holds c0, PUT OFF: its NAME is a WORKING of its own, so the chain is one deeper.
            dueRun("a chain of " + depth, deep, m, 50000, false, DEEP);
            due("told(6)", deep.told(6), 0);
        }
        LazyStrict fits = compiled(chainTo(249, "7", "int") + "m : list = cons c0 (cons 2 nil);");
        dueRun("a chain of 249", fits, fits.functions() - 1, 50000, false, WELL);
        due("told(4)", fits.told(4), 250);
        due("told(6)", fits.told(6), 2);
    }

    // ---------------------------------------------------------------- told

    private static void toldBeforeAndBehind() {
        about = "told: 0 before one, since the TEXT was changed";
        LazyStrict x = compiled("m : list = cons (1 + 1) nil; n : int = 5;");
        dueTold(x, "before a run", 0, 0, 0, 0, 0, 0, 0, 0, 0, 0);
        dueRun("a list", x, 0, 10, false, WELL);
        dueTold(x, "a list", 4, 1, 0, 1, 2, 0, 1, 1, 1, 0);
        dueRun("an int behind it", x, 1, 10, false, WELL);
        dueTold(x, "an int behind it", 1, 0, 0, 0, 1, 5, 0, 0, 1, 0);
        outside("element(0)", () -> x.element(0));
        dueRun("SPENT behind it", x, 1, 0, false, SPENT);
        dueTold(x, "SPENT behind it", 0, 0, 0, 0, 0, 0, 0, 0, 1, 0);
        dueRun("a list again", x, 0, 10, true, WELL);
        x.compile();
        dueTold(x, "behind compile()", 4, 1, 0, 1, 2, 0, 1, 1, 1, 0);
        due("element(0) behind compile()", x.element(0), 2);
        x.feed(1, ' ');
        dueTold(x, "behind feed()", 0, 0, 0, 0, 0, 0, 0, 0, 0, 0);
        outside("element(0) behind feed()", () -> x.element(0));
        x.compile();
        dueTold(x, "before a run of this TEXT", 0, 0, 0, 0, 0, 0, 0, 0, 0, 0);
        dueRun("a list again", x, 0, 10, true, WELL);
        x.wipe();
        dueTold(x, "behind wipe()", 0, 0, 0, 0, 0, 0, 0, 0, 0, 0);
        outside("element(0) behind wipe()", () -> x.element(0));
        outside("told(-1)", () -> x.told(-1));
        outside("told(10)", () -> x.told(10));
    }
}
