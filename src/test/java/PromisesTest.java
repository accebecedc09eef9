/** Each promise of the document by itself: ordinary calls, the edges that it names, wrong calls. */
public final class PromisesTest extends Check {
    private static final String TWO = "f (x : int) (y : int) : int = if x then x else y; g : int = f 3 error;";
    private static final String UPTO =
        "upto (a : int) (b : int) : list = if b < a then nil else cons a (upto (a + 1) b);";

    public static void main(String[] args) {
        promise1();
        promise2();
        promise3();
        manyTexts();
        promise4();
        faults1();
        faults2();
        faults3();
        faults4();
        faults5();
        faults6();
        faults7();
        faults8();
        promise5();
        promise6();
        promise7();
        promise8();
        promise9();
        shapes();
        promise10();
        promise11();
        promise12();
        promise13();
        wrongRuns();
        workings();
        quickRuns();
        functionsThatGotAtoms();
        fullRuns();
        promise14();
        lists();
        promise15();
        end();
    }

    // ---------------------------------------------------------------- texts

    private static void promise1() {
        about = "promise 1";
        dueNothing(new LazyStrict());
        due("NONE", LazyStrict.NONE, -1);
        due("wipe()", new LazyStrict().wipe(), 0);
        due("argument(3)", new LazyStrict().argument(3), 1);
        due("feed(1, 32)", new LazyStrict().feed(1, 32), 1);
        LazyStrict x = new LazyStrict();
        due("compile()", x.compile(), 0);
        due("rounds()", x.rounds(), 1);
        outside("run(0, 10, false)", () -> x.run(0, 10, false));
    }

    private static void promise2() {
        about = "promise 2";
        LazyStrict x = new LazyStrict();
        due("feed(2)", x.feed(2, 0x7f7f7f7f7f7f0000L | 'f' | ':' << 8), 2);
        due("feed(8)", x.feed(8, 0x3b313d20746e6920L), 10);
        due("compile()", x.compile(), 1);
        due("feed(1), octet 255", x.feed(1, -1L), 11);
        due("compile()", x.compile(), -1);
        due("place()", x.place(), 10);
        for (int n : new int[] {0, -1, 9, Integer.MIN_VALUE, Integer.MAX_VALUE}) {
            illegal("feed(" + n + ")", () -> x.feed(n, 32));
        }
        due("place() behind wrong feeds", x.place(), 10);

        LazyStrict full = new LazyStrict();
        for (int i = 0; i < 499; i++) {
            full.feed(8, 0x2020202020202020L);
        }
        due("feed(7)", full.feed(7, 0x20203b313a3a3aL), 3999);
        illegal("feed(2) at 3999", () -> full.feed(2, 32));
        due("feed(1) at 3999", full.feed(1, 32), 4000);
        due("compile() of 4000", full.compile(), -2);
        illegal("feed(1) at 4000", () -> full.feed(1, 32));
        due("place() of 4000", full.place(), 3992);
        due("wipe() of 4000", full.wipe(), 4000);

        LazyStrict forgets = ran();
        forgets.feed(1, ' ');
        dueNothing(forgets);
        due("argument behind feed", forgets.argument(1), 1);
        LazyStrict keeps = ran();
        illegal("feed(9)", () -> keeps.feed(9, 32));
        due("functions() behind a wrong feed", keeps.functions(), 2);
        due("told(5) behind a wrong feed", keeps.told(0), 4);
        due("argument behind a wrong feed", keeps.argument(1), 3);
    }

    /** Compiled and run, with two arguments for the next run. */
    private static LazyStrict ran() {
        LazyStrict x = compiled(TWO);
        x.run(1, 100, false);
        x.argument(8);
        x.argument(9);
        return x;
    }

    private static void promise3() {
        about = "promise 3";
        LazyStrict x = ran();
        due("wipe()", x.wipe(), TWO.length());
        dueNothing(x);
        due("argument behind wipe", x.argument(1), 1);
        due("wipe() again", x.wipe(), 0);
        due("argument behind wipe", x.argument(1), 1);
        due("compile() behind wipe", x.compile(), 0);
        feed(x, "f:int=1;");
        due("compile() of a new text", x.compile(), 1);
        feed(x, "?");
        due("compile() with a fault", x.compile(), -1);
        x.wipe();
        due("place() behind wipe", x.place(), LazyStrict.NONE);
    }

    /** One object with one text behind the other: nothing of an older text may stay. */
    private static void manyTexts() {
        about = "promise 3, many texts";
        LazyStrict x = compiled("f (x : int) (y : int) : int = let a : int = x + y in let b : int = a in b; g : int = f 1 2;");
        x.run(1, 100, true);
        x.wipe();
        feed(x, "f (x : int) (y : int) : int = let a : int = 1 in let b : int = 2 in 3; g : int = error; h : int -");
        due("compile() of what ends with -", x.compile(), -2);
        due("place()", x.place(), 96);
        x.wipe();
        feed(x, "f (x : int) (y : int) : int = let a : int = 1 in let b : int = 2 in 3; g : int = error;");
        due("compile()", x.compile(), 2);
        due("rounds()", x.rounds(), 2);
        dueValues(x, 0, "1111");
        dueValues(x, 1, "0");
        due("parameter(0, 0, 1)", x.parameter(0, 0, 1), 0);
        due("parameter(0, 1, 1)", x.parameter(0, 1, 1), 0);
        due("function(0, 5)", x.function(0, 5), 0);
        x.wipe();
        // All VALUES are 1 at once, then there are ROUNDS enough to see each of these that would stay.
        feed(x, "f (x : int) (y : int) : int = 1; g : int = 1; h : int = 1; i : int = 1;");
        due("compile()", x.compile(), 4);
        dueValues(x, 0, "1111");
        x.wipe();
        feed(x, "f (x : int) (y : int) : int = error; g : int = error; h : int = 1; i : int = h;");
        due("compile()", x.compile(), 4);
        due("rounds()", x.rounds(), 3);
        dueValues(x, 0, "0000");
        dueValues(x, 1, "0");
        x.wipe();
        // Octets of an older text stand behind the end of the new one, and don't count.
        feed(x, "f : int = 1" + "-1".repeat(10) + "->");
        due("an arrow", x.compile(), -2);
        x.wipe();
        feed(x, "f : int = 1" + "-1".repeat(10) + "-");
        due("an eleventh -", x.compile(), -3);
        x.wipe();
        feed(x, "abcdefghijklm");
        x.wipe();
        feed(x, "abcdefghijkl");
        due("a name of twelve", x.compile(), -2);
        x.wipe();
        feed(x, "f : int = 21474836471");
        x.wipe();
        feed(x, "f : int = 2147483647");
        due("a number at the end", x.compile(), -2);
        x.wipe();
        feed(x, "f : int = 123;");
        x.wipe();
        feed(x, "f : int = 12");
        due("compile()", x.compile(), -2);
        feed(x, ";");
        due("compile()", x.compile(), 1);
        due("run", x.run(0, 10, false), 1);
        due("told(5)", x.told(5), 12);
        greatTexts();
    }

    /** More EXPRESSIONS in all than one TEXT can have. */
    private static void greatTexts() {
        LazyStrict x = new LazyStrict();
        for (int turn = 1; turn <= 3; turn++) {
            StringBuilder text = new StringBuilder();
            for (int f = 0; f < 20; f++) {
                text.append("f" + f + ":int=" + turn + "+1".repeat(10) + "<1" + "+1".repeat(10) + ";");
            }
            feed(x, text + "g:int=let a:int=" + turn + " in a*2;");
            due("compile() of text " + turn, x.compile(), 21);
            due("run of text " + turn, x.run(20, 10, true), 1);
            due("told(5) of text " + turn, x.told(5), 2 * turn);
            due("told(9) of text " + turn, x.told(9), 1);
            x.wipe();
        }
    }

    private static void promise4() {
        about = "promise 4";
        dueFine("", 0);
        dueFine(" \n \n", 0);
        dueFine("f:int=1;", 1);
        dueFine("\nf\n:\nint\n=\n1\n;\n", 1);
        dueFine(TWO, 2);
        dueFine("f(x:int->list)(y:list->int->int):list=x(y nil 2);", 1);
        dueFine("f (x : list) : int = case x of empty -> 0 | h : t -> h - 1 * f t / 2;", 1);
        dueFine("f : int = let a : int = if 1 then 2 else 3 in let b : list = nil in a = a;", 1);
        dueFine("int1 : int = lets; lets : int = 1; nilx : list = cons (1) (nil);", 3);
        dueFine("z9 : int = y0; y0 : int = z9;", 2);
        dueFine("f : int = a1b2c3d4e5f6 ; a1b2c3d4e5f6 : int = 002147483647;", 2);
        LazyStrict x = compiled(TWO);
        x.argument(4);
        due("compile() again", x.compile(), 2);
        due("argument behind compile()", x.argument(4), 2);
        due("run", x.run(0, 100, false), 1);
        x.compile();
        due("told(5) behind compile()", x.told(5), 4);
        due("precedence", numbered("f : int = 2 + 3 * 4 - 10 / 3 / 2 - 1 - 1;", 0), 11);
        due("brackets", numbered("f : int = (2 + 3) * 4 - (10 / (3 / 2) - 1 - 1);", 0), 12);
        due("comparison of sums", numbered("f : int = 1 + 2 = 3;", 0), 1);
        due("comparison of sums", numbered("f : int = 1 + 2 < 3;", 0), 0);
        due("atoms behind a name", numbered("f : int = g 1 2 * 3; g (a : int) (b : int) : int = a - b;", 0), -3);
    }

    private static void faults1() {
        about = "fault 1";
        dueFault("#", 1, 0);
        dueFault("f : int = 1 >;", 1, 12);
        dueFault("f : int\t= 1;", 1, 7);
        dueFault("f : int = 1;\r", 1, 12);
        dueFault("F : int = 1;", 1, 0);
        dueFault("f : int = 1;\0", 1, 12);
        dueFault("f : int = 1;\u00e4", 1, 12);
        dueFault("f_1 : int = 1;", 1, 1);
        dueFault("abcdefghijkl : int = abcdefghijklm;", 1, 21);
        dueFault("abcdefghijklmnopqrstuvwxyz", 1, 0);
        dueFault("f : int = 2147483648;", 1, 10);
        dueFault("f : int = 99999999999999999999999999999999999999999999;", 1, 10);
        dueFault("f : int = 18446744073709551617;", 1, 10);
        // Fault 1 comes first, wherever it stands.
        dueFault("; let ( 1 #", 1, 10);
        dueFault("f : int = 1; f : list = 2; #", 1, 27);
        dueFault(";".repeat(1200), 2, 0);
        dueFault(";".repeat(1201), 1, 1200);
        dueFault(" ;".repeat(1200) + "  \n ", 2, 1);
        dueFault(" ;".repeat(1200) + "  \n ;", 1, 2404);
        dueFault(" ;".repeat(1200) + " #", 1, 2401);
    }

    private static void faults2() {
        about = "fault 2";
        dueFault("f", 2, 1);
        dueFault("f  \n", 2, 4);
        dueFault("f : int = 1", 2, 11);
        dueFault("f : int = 1; ;", 2, 13);
        dueFault("1", 2, 0);
        dueFault("let : int = 1;", 2, 0);
        dueFault("f x : int = 1;", 2, 2);
        dueFault("f (x) : int = 1;", 2, 4);
        dueFault("f (if : int) : int = 1;", 2, 3);
        dueFault("f (x : int -> int -> int -> int) : int = 1;", 2, 25);
        dueFault("f (x : (int)) : int = 1;", 2, 7);
        dueFault("f : int -> int = 1;", 2, 8);
        dueFault("f : f = 1;", 2, 4);
        dueFault("f : int = ;", 2, 10);
        dueFault("f : int = 1 2;", 2, 12);
        dueFault("f : int = 1 f;", 2, 12);
        dueFault("f : int = nil 1;", 2, 14);
        dueFault("f : int = (f) 1;", 2, 14);
        dueFault("f : int = - 1;", 2, 10);
        dueFault("f : int = 1 = 1 = 1;", 2, 16);
        dueFault("f : int = 1 < 1 = 1;", 2, 16);
        dueFault("f : int = 1 + let a : int = 1 in a;", 2, 14);
        dueFault("f : int = 1 + if 1 then 1 else 1;", 2, 14);
        dueFault("f : list = cons 1;", 2, 17);
        dueFault("f : list = cons f 1 nil;", 2, 20);
        dueFault("f : list = cons 1 cons;", 2, 18);
        dueFault("f : list = f cons 1 nil;", 2, 13);
        dueFault("f : int = let a = 1 in a;", 2, 16);
        dueFault("f : int = let a : int -> int = 1 in a;", 2, 22);
        dueFault("f : int = let a : int = 1;", 2, 25);
        dueFault("f : int = if 1 then 2;", 2, 21);
        dueFault("f : int = case nil of nil -> 1 | h : t -> 2;", 2, 22);
        dueFault("f : int = case nil of empty -> 1 | h : 2 -> 2;", 2, 39);
        dueFault("f : int = case nil of empty -> 1 | h -> 2;", 2, 37);
        dueFault("f : int = case nil of empty -> 1;", 2, 32);
        dueFault("f : int = (1;", 2, 12);
        dueFault("f : int = 1);", 2, 11);
        dueFault("f : int = ();", 2, 11);
        dueFault("f : int - > int", 1, 10);
        // Fault 2 comes before names and types.
        dueFault("f : int = a; f : int = nil; ;", 2, 28);
    }

    private static String nested(int brackets, String inner) {
        return "f : int = " + "(".repeat(brackets) + inner + ")".repeat(brackets) + ";";
    }

    private static void faults3() {
        about = "fault 3";
        dueFine(nested(29, "1"), 1);
        dueFault(nested(30, "1"), 3, 40);
        dueFault(nested(31, "1"), 3, 40);
        dueFault(nested(29, ";"), 2, 39);
        dueFault(nested(30, ";"), 3, 40);
        dueFault("f : int = " + "(".repeat(30), 3, 40);
        dueFine("f : int = " + "if 1 then 1 else ".repeat(29) + "1;", 1);
        dueFault("f : int = " + "if 1 then 1 else ".repeat(30) + "1;", 3, 10 + 29 * 17 + 3);
        dueFine("f : int = " + "let a : int = 1 in ".repeat(29) + "1;", 1);
        dueFault("f : int = " + "let a : int = 1 in ".repeat(30) + "1;", 3, 10 + 29 * 19 + 14);
        dueFault("f (l : list) : int = " + "(".repeat(29) + "case l of", 3, 55);
        dueFine("f (l : list) : int = " + "(".repeat(28) + "case l of empty -> 1 | h : t -> 2" + ")".repeat(28) + ";", 1);
        dueFine("f (l : list) : int = " + "(".repeat(28) + "if 1 then 2 else 3" + ")".repeat(28) + ";", 1);
        String empties = "case nil of empty -> ".repeat(13) + "(".repeat(16);
        dueFine("f : int = " + empties + "1" + ")".repeat(16) + " | h : t -> 1".repeat(13) + ";", 1);
        dueFault("f : int = " + empties + "(1" + ")".repeat(17) + " | h : t -> 1".repeat(13) + ";", 3,
            10 + empties.length() + 1);
        String rests = "case nil of empty -> 1 | h : t -> ".repeat(13) + "(".repeat(16);
        dueFine("f : int = " + rests + "1" + ")".repeat(16) + ";", 1);
        dueFault("f : int = " + rests + "(1" + ")".repeat(17) + ";", 3, 10 + rests.length() + 1);
        String thens = "if 1 then ".repeat(29);
        dueFine("f : int = " + thens + "1" + " else 1".repeat(29) + ";", 1);
        dueFault("f : int = " + thens + "(1)" + " else 1".repeat(29) + ";", 3, 10 + thens.length() + 1);
        dueFine("f : int = 1" + "+1".repeat(10) + ";", 1);
        dueFault("f : int = 1" + "+1".repeat(11) + ";", 3, 31);
        dueFault("f : int = 1" + "+1".repeat(10) + "-;", 3, 31);
        dueFine("f : int = 1" + "*1/1".repeat(5) + ";", 1);
        dueFault("f : int = 1" + "*1/1".repeat(5) + "*1;", 3, 31);
        dueFine("f : int = 1" + "*1".repeat(10) + "+1" + "*1".repeat(10) + "<1" + "-1".repeat(10) + ";", 1);
        dueFine("f : int = (1" + "+1".repeat(10) + ")" + "+1".repeat(10) + ";", 1);
        // The one at the first token: a wrong token before the nesting, and the other way round.
        dueFault("f : int = 1 1" + "+1".repeat(11) + ";", 2, 12);
        dueFault("f : int = 1" + "+1".repeat(11) + " 1;", 3, 31);
    }

    private static String functions(int count) {
        StringBuilder text = new StringBuilder();
        for (int f = 0; f < count; f++) {
            text.append("f").append((char) ('a' + f / 26)).append((char) ('a' + f % 26)).append(":int=1;");
        }
        return text.toString();
    }

    private static String parameters(int count) {
        StringBuilder text = new StringBuilder("f ");
        for (int i = 0; i < count; i++) {
            text.append("(").append((char) ('a' + i)).append(":int)");
        }
        return text + ":int=1;";
    }

    private static void faults4() {
        about = "fault 4";
        dueFine(functions(40), 40);
        dueFault(functions(41), 4, 400);
        dueFault(functions(40) + ";", 2, 400);
        dueFault(functions(40) + "x x", 4, 400);
        dueFine(parameters(8), 1);
        dueFault(parameters(9), 4, 2 + 8 * 7 + 1);
        dueFault("f (a:int)(a:int)(a:int)(a:int)(a:int)(a:int)(a:int)(a:int)(1:int):int=1;", 2, 59);
        String lets = "let a : int = 1 in ".repeat(25);
        dueFine("f (x : int) : int = (" + lets + "1) + (let b : int = 1 in let c : int = 1 in let d : int = 1 in"
            + " let e : int = 1 in 1);", 1);
        String thirty = "f (x : int) : int = (" + lets + "1) + (let b : int = 1 in let c : int = 1 in"
            + " case nil of empty -> 1 | h : t -> 1)";
        dueFine(thirty + ";", 1);
        dueFault(thirty + "+ (let e : int = 1 in 1);", 4, thirty.length() + 7);
        dueFault(thirty + "+ (case nil of empty -> 1 | h : t -> 1);", 4, thirty.length() + 28);
        dueFault(thirty + "+ (let 1 : int = 1 in 1);", 2, thirty.length() + 7);
        String odd = "f : int = (" + lets + "1) + (let b : int = 1 in let c : int = 1 in"
            + " case nil of empty -> 1 | h : t -> 1)";
        dueFault(odd + "+ (case nil of empty -> 1 | h : t -> 1);", 4, odd.length() + 32);
        dueFine(thirty + "; g : int = (" + lets + "1) + (let b : int = 1 in 1);", 2);
    }

    private static void faults5() {
        about = "fault 5";
        dueFault("f : int = 1; g : int = 1; f : int = 1;", 5, 26);
        dueFault("f (a : int) (b : int) (a : list) : int = 1;", 5, 23);
        dueFault("f (a : int) (a : int) : int = 1; f : int = 1;", 5, 13);
        dueFault("f : int = 1; f (a : int) (a : int) : int = 1;", 5, 13);
        dueFault("f : int = x; f : int = nil;", 5, 13);
        dueFine("f (f : int) (g : int) : int = f; g (f : int) : int = let f : int = f in f;", 2);
        dueFine("f (a : list) : int = case a of empty -> 1 | a : a -> 2;", 1);
    }

    private static void faults6() {
        about = "fault 6";
        dueFault("f : int = x;", 6, 10);
        dueFault("f : int = (g) + x; g : int = 1;", 6, 16);
        dueFault("f : int = let a : int = a in a;", 6, 24);
        dueFault("f : int = (let a : int = 1 in a) + a;", 6, 35);
        dueFault("f : int = case nil of empty -> h | h : t -> h;", 6, 31);
        dueFault("f : int = case t of empty -> 1 | h : t -> h;", 6, 15);
        dueFault("f : int = (case nil of empty -> 1 | h : t -> h) + h;", 6, 50);
        dueFault("f : int = 1; g (x : int) : int = y; h (y : int) : int = y;", 6, 33);
        // From left to right, each before its parts; function by function.
        dueFault("f : int = x + nil;", 6, 10);
        dueFault("f : int = nil + x;", 7, 10);
        dueFault("f : int = g x; g (a : int) : list = nil;", 7, 10);
        dueFault("f : int = g x nil; g (a : int) : int = 1;", 7, 10);
        dueFault("f : int = x nil nil;", 6, 10);
        dueFault("f : int = nil; g : int = x;", 7, 10);
        dueFine("f : int = g; g : int = f;", 2);
    }

    private static void faults7() {
        about = "fault 7";
        dueFault("f : int = nil;", 7, 10);
        dueFault("f : list = 1;", 7, 11);
        dueFault("f : int = cons 1 nil;", 7, 10);
        dueFault("f : list = 1 + 2;", 7, 13);
        dueFault("f : list = ((1 = 2));", 7, 15);
        dueFault("f : list = cons nil nil;", 7, 16);
        dueFault("f : list = cons 1 1;", 7, 18);
        dueFault("f : int = 1 + 2 * nil;", 7, 18);
        dueFault("f : int = 1 < nil + 2;", 7, 14);
        dueFault("f : int = if nil then 1 else nil;", 7, 13);
        dueFault("f : int = if 1 then 1 else nil;", 7, 27);
        dueFault("f : int = case 1 of empty -> 1 | h : t -> 1;", 7, 15);
        dueFault("f : int = case nil of empty -> nil | h : t -> 1;", 7, 31);
        dueFault("f : int = case nil of empty -> 1 | h : t -> t;", 7, 44);
        dueFault("f : list = case nil of empty -> nil | h : t -> h;", 7, 47);
        dueFault("f : int = let a : int = nil in a;", 7, 24);
        dueFault("f : int = let a : list = nil in a;", 7, 32);
        dueFault("f (x : int) : int = x 1;", 7, 20);
        dueFault("f (x : int -> int) : int = x;", 7, 27);
        dueFault("f (x : int -> int) : int = x 1 2;", 7, 27);
        dueFault("f (x : int -> int) : int = x nil;", 7, 29);
        dueFault("f (x : int -> list) : int = x 1;", 7, 28);
        dueFault("f (x : int) : int = f;", 7, 20);
        dueFault("f (x : int) : int = f 1 2;", 7, 20);
        dueFault("f (x : int) : int = f (f);", 7, 23);
        String g = "g (x : int -> int) : int = x 1; h (a : int) (b : int) (c : int) : int = a; l (a : list) : int = 1;";
        int n = g.length() + 10;
        dueFine(g + "f : int = g (h 1 2);", 4);
        dueFine(g + "f : int = g g2; g2 (a : int) : int = 1;", 5);
        dueFault(g + "f : int = g (h 1);", 7, n + 3);
        dueFault(g + "f : int = g h;", 7, n + 2);
        dueFault(g + "f : int = g l;", 7, n + 2);
        dueFault(g + "f : int = g 1;", 7, n + 2);
        dueFault(g + "f : int = g error;", 7, n + 2);
        dueFault(g + "f : int = g nil;", 7, n + 2);
        dueFault(g + "f : int = g (if x then x else x);", 7, n + 3);
        dueFault(g + "f : int = g (let a : int = x in x);", 7, n + 3);
        dueFault(g + "f : int = g (case x of empty -> x | h : t -> x);", 7, n + 3);
        dueFault(g + "f : int = g (1 + x);", 7, n + 5);
        dueFault(g + "f : int = g (cons x x);", 7, n + 3);
        // A name with fewer atoms, whose left parameters are no bases.
        dueFault("a (x : int) (y : int -> int) : int = 1; b (f : int -> int) : int = b (a 1);", 7, 70);
        dueFault("a (x : int) (y : int) (z : int -> int) : int = 1; b (f : int -> int -> int) : int = b (a 1);", 7, 87);
        dueFault("a (x : int) (y : int -> int) (z : int) : int = 1; b (f : int -> int -> int) : int = b (a 1);", 7, 87);
        dueFault("a (x : int) (y : int) (z : list) : int = 1; b (f : int -> int -> int) : int = b (a 1);", 7, 81);
        dueFine("f : int = error; g : list = error; h : int = if error then error else error;", 3);
        dueFine("f (x : int -> int -> int) (y : list) : int = g (x 1) + f x y; g (x : int -> int) : int = f h nil;"
            + "h (a : int) (b : int) : int = a;", 3);
    }

    private static void faults8() {
        about = "fault 8";
        String six = "(a : int -> int -> int) (b : int -> int -> int) (c : int -> int -> list) ";
        dueFine("f " + six + "(d : int) (e : int) : int = 1;", 1);
        dueFault("g : int = 1; f " + six + "(d : int) (e : int -> int) : int = 1;", 8, 13);
        dueFault("f " + six + "(d : int -> int -> int) : int = 1; g : int = x;", 6,
            ("f " + six + "(d : int -> int -> int) : int = 1; g : int = ").length());
        dueFine("f (a : int) (b : int) (c : int) (d : int) (e : int) (f : int) (g : int) (h : list) : int = 1;", 1);
        dueFine("f (a : int -> int) (b : int -> int) (c : int -> int) (d : int -> int) (e : int -> int)"
            + " (f : int) (g : int) : int = 1;", 1);
        dueFault("f (a : int -> int) (b : int -> int) (c : int -> int) (d : int -> int) (e : int -> int)"
            + " (f : int -> int) (g : int) : int = 1;", 8, 0);
    }

    private static void promise5() {
        about = "promise 5";
        LazyStrict x = fed("f : int = nil;");
        due("place() before compile()", x.place(), LazyStrict.NONE);
        x.compile();
        due("place()", x.place(), 10);
        x.compile();
        due("place() behind compile() again", x.place(), 10);
        x.feed(1, ' ');
        due("place() of a text that changed", x.place(), LazyStrict.NONE);
        x.compile();
        due("place() behind compile()", x.place(), 10);
        x.wipe();
        due("place() behind wipe()", x.place(), LazyStrict.NONE);
        x.compile();
        due("place() without a fault", x.place(), LazyStrict.NONE);
    }

    private static void promise6() {
        about = "promise 6";
        LazyStrict x = fed(TWO);
        due("functions() before compile()", x.functions(), 0);
        x.compile();
        due("functions()", x.functions(), 2);
        feed(x, "h : int = 1");
        due("functions() of a text that changed", x.functions(), 0);
        x.compile();
        due("functions() with a fault", x.functions(), 0);
        feed(x, ";");
        x.compile();
        due("functions()", x.functions(), 3);
    }

    private static void promise7() {
        about = "promise 7";
        String one = "g : int = 1; ";
        LazyStrict x = compiled(one + "f (a : int) (b : list -> int) (c : int -> int -> int) : list ="
            + " let u : int = let v : int = a in v + 1 in let w : list = nil in"
            + " case w of empty -> cons u w | h : t -> let z : int = h in let y : int = z in t;");
        int[] want = {3, 1, 36, 10, 5, 2, one.length()};
        for (int what = 0; what < 7; what++) {
            due("function(1, " + what + ")", x.function(1, what), want[what]);
        }
        int[] first = {0, 0, 1, 0, 0, 0, 0};
        for (int what = 0; what < 7; what++) {
            due("function(0, " + what + ")", x.function(0, what), first[what]);
        }
        for (int bad : new int[] {-1, 7, Integer.MIN_VALUE, Integer.MAX_VALUE}) {
            outside("function(0, " + bad + ")", () -> x.function(0, bad));
        }
        for (int bad : new int[] {-1, 2, Integer.MIN_VALUE, Integer.MAX_VALUE}) {
            outside("function(" + bad + ", 0)", () -> x.function(bad, 0));
        }
        LazyStrict faulty = fed("f : int = nil;");
        faulty.compile();
        outside("function(0, 0) with a fault", () -> faulty.function(0, 0));
    }

    private static void promise8() {
        about = "promise 8";
        String[] bases = {"int", "list"};
        for (int a = 0; a < 2; a++) {
            for (int b = 0; b < 2; b++) {
                String two = bases[a] + "->" + bases[b];
                LazyStrict x = compiled("f (p : " + bases[a] + ") (q : " + two + ") (r : " + two + " -> int) (s : "
                    + two + " -> list) : int = 1;");
                due("parameter of " + two, x.parameter(0, 0, 0), a);
                due("parameter of " + two, x.parameter(0, 1, 0), 2 + 2 * a + b);
                due("parameter of " + two, x.parameter(0, 2, 0), 6 + 4 * a + 2 * b);
                due("parameter of " + two, x.parameter(0, 3, 0), 7 + 4 * a + 2 * b);
            }
        }
        LazyStrict x = compiled("f (a : int) (b : int) (c : list) (d : int) (g : int -> int) : int ="
            + " case c of empty -> a + b | h : t -> g d + a; e (a : int) (g : int -> int) : int = error;"
            + "loop (a : int) (b : list) : int = loop a b; acc (n : int) (a : int) : int ="
            + " if n = 0 then a else acc (n - 1) (a + n); k (n : int) (a : int) : int ="
            + " if n = 0 then 1 else k (n - 1) (a + n);");
        int[][] want = {{1, 0, 1, 0, 0}, {1, 0}, {1, 1}, {1, 1}, {1, 0}};
        for (int f = 0; f < want.length; f++) {
            for (int i = 0; i < want[f].length; i++) {
                due("parameter(" + f + ", " + i + ", 1)", x.parameter(f, i, 1), want[f][i]);
            }
        }
        for (int bad : new int[] {-1, 5, Integer.MIN_VALUE, Integer.MAX_VALUE}) {
            outside("parameter(" + bad + ", 0, 0)", () -> x.parameter(bad, 0, 0));
            outside("parameter(0, " + bad + ", 0)", () -> x.parameter(0, bad, 0));
            outside("parameter(0, 0, " + bad + ")", () -> x.parameter(0, 0, bad));
        }
        outside("parameter(1, 2, 0)", () -> x.parameter(1, 2, 0));
        outside("parameter(0, 0, 2)", () -> x.parameter(0, 0, 2));
    }

    private static void promise9() {
        about = "promise 9";
        LazyStrict x = compiled(TWO);
        dueValues(x, 0, "0011");
        dueValues(x, 1, "1");
        for (int bad : new int[] {-1, 4, 999, 1000, Integer.MIN_VALUE, Integer.MAX_VALUE}) {
            outside("value(0, " + bad + ")", () -> x.value(0, bad));
            outside("value(" + bad + ", 0)", () -> x.value(bad, 0));
        }
        outside("value(1, 1)", () -> x.value(1, 1));
        outside("value(2, 0)", () -> x.value(2, 0));
        dueValues(compiled("f (x : int) (y : int) : int = x + y;"), 0, "0001");
        dueValues(compiled("f (x : int) (y : int) : int = if 1 then x else y;"), 0, "0111");
        dueValues(compiled("f (x : int) (y : list) : int = case y of empty -> x | h : t -> h + x;"), 0, "0001");
        dueValues(compiled("f (x : int) (y : list) : int = case y of empty -> x | h : t -> h;"), 0, "0101");
        dueValues(compiled("f (x : int) (y : int) : list = cons x (cons y error);"), 0, "1111");
        dueValues(compiled("f (x : int) (y : int) : int = let z : int = x in let y : int = z * 1 in y = 2;"), 0, "0011");
        dueValues(compiled("f (x : int) : int = error; g : int = f 1; h : int = 1 / 0; i : list = nil;"), 0, "00");
        dueValues(compiled("f (x : int) : int = f x;"), 0, "00");
        dueValues(compiled("f (x : int) (y : int) : int = if x < 0 then y else f (x - 1) y;"), 0, "0001");
    }

    /** Shapes of parameters, and of names with fewer atoms. */
    private static void shapes() {
        about = "promise 9, shapes";
        dueValues(compiled("f (g : int -> int) (x : int) : int = g x;"), 0, "000111");
        dueValues(compiled("f (g : int -> list -> int) (x : int) (y : list) : int = g x y;"), 0,
            "000000010011010101111111");
        dueValues(compiled("f (x : int) (g : int -> int -> int) : int = h (g x); h (g : int -> int) : int = g error;"),
            0, "000001001011");
        String to = "no (x : int) (y : int) : int = error; both (x : int) (y : int) : int = x + y;"
            + "one (x : int) (y : int) : int = x; two (x : int) (y : int) : int = y;"
            + "any (x : int) (y : int) : int = if 1 then x else y; yes (x : int) (y : int) : int = 1;"
            + "k (g : int -> int -> int) (x : int) (y : int) : int = g x y; j (g : int -> int) (y : int) : int = g y;";
        String[] names = {"no", "both", "one", "two", "any", "yes"};
        String[] want = {"0000", "0001", "0011", "0101", "0111", "1111"};
        for (int i = 0; i < 6; i++) {
            LazyStrict x = compiled(to + "m (x : int) (y : int) : int = k " + names[i] + " x y;"
                + "n (x : int) (y : int) : int = j (" + names[i] + " x) y;"
                + "o (x : int) (y : int) : int = p " + names[i] + " x y;"
                + "p (g : int -> int -> int) (x : int) (y : int) : int = j (g x) y;");
            for (int f = 8; f < 11; f++) {
                dueValues(x, f, want[i]);
            }
        }
    }

    private static void promise10() {
        about = "promise 10";
        due("rounds() before compile()", fed(TWO).rounds(), 0);
        due("rounds() of nothing", compiled("").rounds(), 1);
        due("rounds()", compiled(TWO).rounds(), 3);
        due("rounds() where all is 0", compiled("f : int = error; g : int = f;").rounds(), 1);
        due("rounds() of one", compiled("f : int = 1;").rounds(), 2);
        // Each round looks at the round before, so a chain takes one more for each of its links.
        due("rounds() of a chain", compiled("a : int = 1; b : int = a; c : int = b; d : int = c;").rounds(), 5);
        due("rounds() of a chain", compiled("d : int = c; c : int = b; b : int = a; a : int = 1;").rounds(), 5);
        LazyStrict x = compiled("f : int = 1;");
        x.feed(1, '#');
        due("rounds() of a text that changed", x.rounds(), 0);
        x.compile();
        due("rounds() with a fault", x.rounds(), 0);
    }

    private static void promise11() {
        about = "promise 11";
        String text = "f (x : int) : int = let a : int = x in let b : int = 1 in let c : int = a in"
            + " if c then a else b;";
        LazyStrict x = compiled(text);
        int a = text.indexOf("let a");
        int b = text.indexOf("let b");
        int c = text.indexOf("let c");
        for (int place = -2; place <= text.length() + 1; place++) {
            int want = place == a || place == c ? 1 : place == b ? 0 : LazyStrict.NONE;
            due("isStrict(" + place + ")", x.isStrict(place), want);
        }
        due("isStrict of the least int", x.isStrict(Integer.MIN_VALUE), LazyStrict.NONE);
        due("isStrict of the greatest int", x.isStrict(Integer.MAX_VALUE), LazyStrict.NONE);
        x.feed(1, ' ');
        due("isStrict of a text that changed", x.isStrict(a), LazyStrict.NONE);
        // The other locals have the greatest, whatever their own first parts are.
        String other = "f : int = let a : int = error in let b : int = 1 in a; g : int = let a : int = 1 in error;"
            + "h : int = let a : list = nil in let b : int = case a of empty -> 1 | h : t -> h in b + 1;";
        LazyStrict y = compiled(other);
        due("strict a of f", y.isStrict(other.indexOf("let")), 1);
        due("strict b of f", y.isStrict(other.indexOf("let b : int = 1")), 0);
        due("strict a of g", y.isStrict(other.indexOf("let a : int = 1")), 1);
        due("strict a of h", y.isStrict(other.indexOf("let a : list")), 1);
        due("strict b of h", y.isStrict(other.indexOf("let b : int = case")), 1);
        due("a let within a let's first part", compiled("f:int=let a:int=let b:int=1 in b in 2;").isStrict(16), 1);
        due("a let that is not strict", compiled("f:int=let a:int=let b:int=1 in b in 2;").isStrict(6), 0);
    }

    private static void promise12() {
        about = "promise 12";
        LazyStrict x = compiled("f (a:int)(b:int)(c:int)(d:int)(e:int)(f:int)(g:int)(h:int) : int ="
            + " a + 10 * (b + 10 * (c + 10 * (d + 10 * (e + 10 * (f + 10 * (g + 10 * h))))));");
        for (int i = 1; i <= 8; i++) {
            due("argument", x.argument(i), i);
        }
        dueThrow("a ninth argument", IllegalStateException.class, () -> x.argument(9));
        due("run", x.run(0, 1000, false), 1);
        due("told(5)", x.told(5), 87654321);
        due("argument behind run", x.argument(Integer.MIN_VALUE), 1);
        LazyStrict one = compiled("f (a : int) : int = a;");
        one.argument(Integer.MIN_VALUE);
        one.run(0, 10, false);
        due("told(5)", one.told(5), Integer.MIN_VALUE);
    }

    // ---------------------------------------------------------------- runs

    private static void promise13() {
        about = "promise 13";
        LazyStrict x = compiled(TWO);
        due("run", x.run(1, 50000, false), 1);
        dueTold(x, "lazy", 4, 1, 1, 0, 3, 3, 0, 0, 2, 0);
        due("quick run", x.run(1, 50000, true), 1);
        dueTold(x, "quick", 5, 1, 1, 0, 3, 3, 0, 0, 2, 1);
        x.argument(0);
        x.argument(-7);
        due("run with arguments", x.run(0, 50000, true), 1);
        dueTold(x, "arguments", 3, 0, 0, 0, 2, -7, 0, 0, 1, 0);
        due("run of 4 steps", x.run(1, 4, false), 1);
        due("run of 3 steps", x.run(1, 3, false), 3);
        dueTold(x, "3 steps", 3, 1, 1, 0, 3, 0, 0, 0, 2, 0);
        due("run of no steps", x.run(1, 0, false), 3);
        dueTold(x, "no steps", 0, 0, 0, 0, 0, 0, 0, 0, 1, 0);
        LazyStrict loop = compiled("loop : int = loop; f : int = error; g : int = 1 / (2 - 2);");
        due("deep", loop.run(0, 50000, false), 4);
        dueTold(loop, "deep", 250, 0, 0, 0, 250, 0, 0, 0, 251, 0);
        due("deep before spent", loop.run(0, 250, true), 4);
        due("spent before deep", loop.run(0, 249, true), 3);
        dueTold(loop, "spent", 249, 0, 0, 0, 249, 0, 0, 0, 250, 0);
        due("error", loop.run(1, 50000, false), 2);
        dueTold(loop, "error", 1, 0, 0, 0, 1, 0, 0, 0, 1, 0);
        due("division by 0", loop.run(2, 50000, false), 2);
        dueTold(loop, "division by 0", 5, 0, 0, 0, 3, 0, 0, 0, 1, 0);
    }

    private static void wrongRuns() {
        about = "promise 13, wrong runs";
        LazyStrict x = compiled("f (a : int) : int = a; g (l : list) : int = 1; h (k : int -> int) : int = 1;"
            + "i : list = cons 4 nil;");
        due("run", x.run(3, 10, false), 1);
        x.argument(5);
        for (int bad : new int[] {-1, 4, Integer.MIN_VALUE, Integer.MAX_VALUE}) {
            outside("run(" + bad + ")", () -> x.run(bad, -1, false));
        }
        for (int bad : new int[] {-1, 50001, Integer.MIN_VALUE, Integer.MAX_VALUE}) {
            illegal("run of " + bad + " steps", () -> x.run(0, bad, false));
        }
        illegal("a list wanted", () -> x.run(1, 10, false));
        illegal("a function wanted", () -> x.run(2, 10, false));
        illegal("an argument too many", () -> x.run(3, 10, false));
        due("told(6) behind wrong runs", x.told(6), 1);
        due("element(0) behind wrong runs", x.element(0), 4);
        due("run with the argument that stayed", x.run(0, 10, false), 1);
        due("told(5)", x.told(5), 5);
        illegal("no argument left", () -> x.run(0, 10, false));
        due("told(5) of the run before", x.told(5), 5);
        LazyStrict not = fed("f : int = 1;");
        outside("run before compile()", () -> not.run(0, 10, false));
        not.compile();
        due("run", not.run(0, 10, false), 1);
    }

    private static void workings() {
        about = "section 4";
        due("wraps", numbered("f : int = 2147483647 + 1;", 0), Integer.MIN_VALUE);
        due("wraps", numbered("f : int = 0 - 2147483647 - 2;", 0), Integer.MAX_VALUE);
        due("wraps", numbered("f : int = 65536 * 65537;", 0), 65536);
        due("wraps", numbered("f : int = (0 - 2147483647 - 1) / (0 - 1);", 0), Integer.MIN_VALUE);
        due("division", numbered("f : int = 7 / 2;", 0), 3);
        due("division below 0", numbered("f : int = (0 - 7) / 2;", 0), -3);
        due("if below 0", numbered("f (a : int) : int = if a then 1 else 2;", 0, -1), 1);
        due("if 0", numbered("f (a : int) : int = if a then 1 else 2;", 0, 0), 2);
        due("= and <", numbered("f (a : int) (b : int) : int = (a = b) + 2 * (a < b) + 4 * (b < a);", 0, -1, 1), 2);
        due("= and <", numbered("f (a : int) (b : int) : int = (a = b) + 2 * (a < b) + 4 * (b < a);", 0, 3, 3), 1);
        due("innermost local", numbered("f (a : int) : int = let a : int = a + 1 in let a : int = a * 2 in a;", 0, 4), 10);
        due("empty", numbered("f : int = case nil of empty -> 5 | h : t -> h;", 0), 5);
        due("not empty", numbered("f : int = case cons 6 nil of empty -> 5 | h : t -> h;", 0), 6);
        due("both names the same", numbered("f : int = case cons 1 (cons 2 nil) of empty -> 0"
            + " | a : a -> case a of empty -> 3 | b : c -> b;", 0), 2);
        due("a local before a function", numbered("f (g : int) : int = g; g : int = 5;", 0, 6), 6);

        LazyStrict x = compiled("f : int = let a : int = 1 + 2 in a + a; g : int = let a : int = error in 5;"
            + "h : int = let a : int = 1 + 2 in let b : int = a in let c : int = (7) in b + c;"
            + "i : int = k 1 (1) error; k (a : int) (b : int) (c : int) : int = a + b;"
            + "l : int = 1 / 0 + error; m (a : int) : int = let b : int = m2 a in let c : int = b in c + b;"
            + "m2 (a : int) : int = a * 2;");
        due("run", x.run(0, 100, false), 1);
        dueTold(x, "a is worked once", 7, 1, 0, 0, 5, 6, 0, 0, 1, 0);
        due("run", x.run(1, 100, false), 1);
        dueTold(x, "a is not worked", 2, 1, 1, 0, 2, 5, 0, 0, 1, 0);
        due("run", x.run(2, 100, false), 1);
        dueTold(x, "a local is what it holds", 9, 1, 0, 0, 7, 10, 0, 0, 1, 0);
        due("run", x.run(3, 100, false), 1);
        dueTold(x, "numbers are themselves", 4, 1, 1, 0, 3, 2, 0, 0, 2, 0);
        due("run", x.run(5, 100, false), 2);
        dueTold(x, "the left part first", 4, 0, 0, 0, 3, 0, 0, 0, 1, 0);
        x.argument(21);
        due("run", x.run(6, 100, false), 1);
        dueTold(x, "a call that was put off", 9, 1, 0, 0, 7, 84, 0, 0, 2, 0);
    }

    private static void quickRuns() {
        about = "section 4, quick";
        LazyStrict x = compiled("acc (n : int) (a : int) : int = if n = 0 then a else acc (n - 1) (a + n);"
            + "main : int = acc 30 0; lazy : int = let a : int = 1 + 2 in let b : int = error in a;"
            + "by (f : int -> int) (n : int) : int = f (n + 1); dec (n : int) : int = n - 1; up : int = by dec 4;"
            + "len (l : list) : int = case l of empty -> 0 | h : t -> 1 + len t; two : int = len (cons 1 (cons 2 nil));");
        due("lazy", x.run(1, 5000, false), 1);
        due("lazy result", x.told(5), 465);
        due("lazy put off", x.told(1), 60);
        due("lazy worked", x.told(2), 0);
        due("lazy strict", x.told(9), 0);
        due("quick", x.run(1, 5000, true), 1);
        due("quick result", x.told(5), 465);
        due("quick put off", x.told(1), 0);
        due("quick strict", x.told(9), 62);
        due("quick let", x.run(2, 100, true), 1);
        dueTold(x, "quick let", 6, 1, 1, 0, 3, 3, 0, 0, 1, 1);
        // f is a local: what it gets is put off, though the function that it is has a strict parameter.
        due("quick local function", x.run(5, 100, true), 1);
        dueTold(x, "quick local function", 8, 1, 0, 0, 6, 4, 0, 0, 3, 0);
        due("quick list", x.run(7, 100, true), 1);
        due("quick list strict", x.told(9), 3);
        due("quick list put off", x.told(1), 1);
        due("quick list cells", x.told(3), 2);
        due("quick list result", x.told(5), 2);
    }

    private static void functionsThatGotAtoms() {
        about = "section 4, functions that got atoms";
        LazyStrict x = compiled("sub (a : int) (b : int) (c : int) : int = a * 100 + b * 10 + c;"
            + "use (f : int -> int -> int) (n : int) : int = again (f n) 3; again (f : int -> int) (n : int) : int = f n;"
            + "m : int = use (sub 1) 2; o : int = use (sub (0 + 1)) (1 + 1);");
        due("run", x.run(3, 100, false), 1);
        due("told(5)", x.told(5), 123);
        due("told(1)", x.told(1), 0);
        due("told(8)", x.told(8), 4);
        due("run", x.run(4, 100, false), 1);
        due("told(5)", x.told(5), 123);
        due("told(1)", x.told(1), 2);
        due("told(2)", x.told(2), 0);
        LazyStrict y = compiled("twice (f : int -> int) (x : int) : int = f (f x); inc (x : int) : int = x + 1;"
            + "m (n : int) : int = twice (twice (twice inc)) n;");
        y.argument(5);
        due("run", y.run(2, 1000, true), 1);
        due("told(5)", y.told(5), 13);
    }

    /** Functions without parameters that call one ten, a hundred and a thousand times. */
    private static String often(String call) {
        return "i : int = " + call + (" + " + call).repeat(9) + ";"
            + "x : int = i + i + i + i + i + i + i + i + i + i; c : int = x + x + x + x + x + x + x + x + x + x;";
    }

    private static void fullRuns() {
        about = "section 4, full";
        LazyStrict x = compiled("p (n : int) : int = 1;" + often("p (1 + 1)") + "m : int = c + c + c;"
            + "o : int = m + p (1 + 1);");
        due("3000 put off", x.run(4, 50000, false), 1);
        dueTold(x, "3000 put off", 2 + 3 * 3110, 3000, 3000, 0, 34, 3000, 0, 0, 1 + 3 + 30 + 300 + 3000, 0);
        due("3001 put off", x.run(5, 50000, false), 5);
        due("told(1)", x.told(1), 3000);
        due("told(5)", x.told(5), 0);

        LazyStrict y = compiled("k (l : list) : int = case l of empty -> 0 | h : t -> 1;" + often("k (cons 1 nil)")
            + "m : int = c + c + c; o : int = m + (case cons 1 nil of empty -> 0 | h : t -> 1);");
        due("3000 cells", y.run(4, 50000, true), 1);
        due("told(3)", y.told(3), 3000);
        due("told(1)", y.told(1), 0);
        due("3001 cells", y.run(5, 50000, true), 5);
        due("told(3)", y.told(3), 3000);
        due("3001 cells, lazy", y.run(5, 50000, false), 5);
        due("told(1)", y.told(1), 3000);

        String lets = "let a : int = 1 in ".repeat(29);
        LazyStrict z = compiled("w (n : int) : int = " + lets + "1;" + often("w 1")
            + "o : int = c + v (1 + 1) ; v (n : int) : int = 1; e : int = c + p; p : int = 2;");
        due("30000 locals", z.run(3, 50000, false), 1);
        due("told(5)", z.told(5), 1000);
        due("told(8)", z.told(8), 1111);
        due("30001 locals", z.run(4, 50000, false), 5);
        due("told(8)", z.told(8), 1112);
        due("told(1): behind its atoms", z.told(1), 1);
        due("no more locals", z.run(6, 50000, false), 1);
        due("told(5)", z.told(5), 1002);

        LazyStrict g = compiled("a (q : int) (r : int) (s : int) (t : int) (u : int) (v : int) (w : int) (x : int) : int ="
            + " q; h (f : int -> int -> int) : int = 1; b (x : int) (y : int) (z : int) : int = x;"
            + often("h (a 1 2 3 4 5 6)") + "m : int = c + h d; o : int = c + h (b (1 + 1));"
            + "n : int = c + l d; l (f : int -> int -> int) : int = j (f (1 + 1)); j (f : int -> int) : int = 1;"
            + "d (x : int) (y : int) : int = x;");
        due("6000 atoms", g.run(5, 50000, false), 1);
        due("and none more", g.run(6, 50000, false), 1);
        due("6001 atoms", g.run(7, 50000, false), 5);
        due("told(1): before they are put off", g.told(1), 0);
        due("6001 atoms of a local", g.run(8, 50000, false), 5);
        due("told(1): before they are put off", g.told(1), 0);
        due("told(0)", g.told(0), 3113);
    }

    private static void promise14() {
        about = "promise 14";
        LazyStrict x = compiled(TWO);
        for (int bad : new int[] {-1, 10, Integer.MIN_VALUE, Integer.MAX_VALUE}) {
            outside("told(" + bad + ")", () -> x.told(bad));
        }
        dueTold(x, "before a run", 0, 0, 0, 0, 0, 0, 0, 0, 0, 0);
        x.run(1, 100, false);
        dueTold(x, "a run", 4, 1, 1, 0, 3, 3, 0, 0, 2, 0);
        x.run(1, 2, false);
        dueTold(x, "the last run", 2, 1, 1, 0, 2, 0, 0, 0, 2, 0);
        // Of the two that are put off one is begun, but not worked to the end.
        LazyStrict y = compiled("f (a : int) (b : int) : int = a + b; g : int = f (1 + 2) (3 + error);");
        due("run", y.run(1, 100, false), 2);
        dueTold(y, "one was not worked to the end", 10, 2, 1, 0, 5, 0, 0, 0, 2, 0);
        due("quick", y.run(1, 100, true), 2);
        dueTold(y, "strict ones", 7, 0, 0, 0, 3, 0, 0, 0, 1, 2);
    }

    private static void lists() {
        about = "section 4, lists";
        LazyStrict x = compiled(UPTO + "from (n : int) : list = cons n (from (n + 1)); m : list = from 7;"
            + "bad : list = cons 1 (cons error nil); cut : list = cons 1 error; one : list = cons (1 + 1) nil;"
            + "same (l : list) : list = l; both : list = let a : int = 1 + 1 in cons a (cons a nil);");
        due("without an end", x.run(2, 5000, false), 1);
        due("told(6)", x.told(6), 50);
        due("told(7)", x.told(7), 0);
        due("told(3)", x.told(3), 50);
        due("element(0)", x.element(0), 7);
        due("element(49)", x.element(49), 56);
        outside("element(50)", () -> x.element(50));
        for (int n : new int[] {0, 1, 49, 50, 51}) {
            x.argument(1);
            x.argument(n);
            due("upto " + n, x.run(0, 5000, n % 2 == 0), 1);
            due("told(6) of " + n, x.told(6), Math.min(n, 50));
            due("told(7) of " + n, x.told(7), n < 50 ? 1 : 0);
            due("told(5) of " + n, x.told(5), 0);
            due("told(3) of " + n, x.told(3), Math.min(n, 50));
        }
        due("an error in it", x.run(3, 100, false), 2);
        due("told(6)", x.told(6), 1);
        due("element(0)", x.element(0), 1);
        outside("element(1)", () -> x.element(1));
        due("an error as its rest", x.run(4, 100, false), 2);
        dueTold(x, "an error as its rest", 2, 1, 1, 1, 1, 0, 1, 0, 1, 0);
        due("one", x.run(5, 100, false), 1);
        dueTold(x, "one", 4, 1, 0, 1, 2, 0, 1, 1, 1, 0);
        due("one, spent", x.run(5, 3, false), 3);
        dueTold(x, "one, spent", 3, 1, 1, 1, 2, 0, 0, 0, 1, 0);
        due("the same twice", x.run(7, 100, false), 1);
        // let, cons, 1 + 1, and the second cons; the second a is done then: a step of its local alone.
        dueTold(x, "the same twice", 6, 2, 0, 2, 2, 0, 2, 1, 1, 0);
        due("element(1)", x.element(1), 2);
    }

    private static void promise15() {
        about = "promise 15";
        LazyStrict x = compiled(UPTO + "g : int = 1;");
        outside("element(0) before a run", () -> x.element(0));
        x.argument(-2);
        x.argument(2);
        due("run", x.run(0, 5000, true), 1);
        for (int i = 0; i < 5; i++) {
            due("element(" + i + ")", x.element(i), i - 2);
        }
        for (int bad : new int[] {-1, 5, Integer.MIN_VALUE, Integer.MAX_VALUE}) {
            outside("element(" + bad + ")", () -> x.element(bad));
        }
        x.run(1, 10, false);
        outside("element(0) of an int", () -> x.element(0));
        x.argument(1);
        x.argument(3);
        x.run(0, 5000, true);
        due("element(2)", x.element(2), 3);
        x.feed(1, ' ');
        outside("element(0) of a text that changed", () -> x.element(0));
    }
}
