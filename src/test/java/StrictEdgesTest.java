/**
 * Section 3 of the document, and the promises that tell of it: the points and SHAPES, the first and the
 * last CASE, the first and the last ROUND, what is STRICT and what is just not.
 */
public final class StrictEdgesTest extends Check {
    private static final String[] SIGNS = {"+", "-", "*", "/", "=", "<"};
    // For both points 0 0, 0 1, 1 0, 1 1: what each SHAPE of two makes of them.
    private static final String[] SHAPES = {"0000", "0001", "0011", "0101", "0111", "1111"};

    public static void main(String[] args) {
        constants();
        lesserOfBoth();
        lesserAndGreater();
        namesOfCase();
        lets();
        shapesOfOne();
        shapesOfTwo();
        numbersOfCases();
        firstAndLastCase();
        fewerAtoms();
        atFirstAllAreZero();
        roundsTillNothingChanges();
        strictParameters();
        greatestForTheOthers();
        strictLets();
        countsOfFunctions();
        end();
    }

    // ---------------------------------------------------------------- points

    private static void constants() {
        about = "of a NUMBER, nil, cons 1; of error 0";
        dueValues(compiled("f : int = 0;"), 0, "1");
        dueValues(compiled("f : int = 2147483647;"), 0, "1");
        dueValues(compiled("f : list = nil;"), 0, "1");
        dueValues(compiled("f : list = cons error error;"), 0, "1");
        dueValues(compiled("f : int = error;"), 0, "0");
        dueValues(compiled("f : list = error;"), 0, "0");
        dueValues(compiled("f (a : int) (b : list) : list = cons a b;"), 0, "1111");
        about = "of a local what it has";
        dueValues(compiled("f (a : int) : int = a;"), 0, "01");
        dueValues(compiled("f (a : list) : list = ((a));"), 0, "01");
    }

    private static void lesserOfBoth() {
        about = "of + - * / = < the lesser of both parts";
        for (String sign : SIGNS) {
            dueValues(compiled("f (a : int) (b : int) : int = a " + sign + " b;"), 0, "0001");
            dueValues(compiled("f (a : int) : int = a " + sign + " 1;"), 0, "01");
            dueValues(compiled("f (a : int) : int = 0 " + sign + " a;"), 0, "01");
            dueValues(compiled("f (a : int) : int = a " + sign + " error;"), 0, "00");
            dueValues(compiled("f (a : int) : int = error " + sign + " a;"), 0, "00");
        }
        // A division by a 0 that can be seen has a point of 1 all the same.
        dueValues(compiled("f : int = 1 / 0;"), 0, "1");
    }

    private static void lesserAndGreater() {
        about = "of if the lesser of the first one and the greater of the other two";
        dueValues(compiled("f (a : int) (b : int) (c : int) : int = if a then b else c;"), 0, "00000111");
        dueValues(compiled("f (a : int) : int = if 0 then 1 else a;"), 0, "11");
        dueValues(compiled("f (a : int) : int = if 1 then error else a;"), 0, "01");
        dueValues(compiled("f (a : int) : int = if error then 1 else 1;"), 0, "00");
        about = "of case likewise";
        String match = " of empty -> b | h : t -> c;";
        dueValues(compiled("f (a : list) (b : int) (c : int) : int = case a" + match), 0, "00000111");
        dueValues(compiled("f (b : list) (c : list) : list = case nil" + match), 0, "0111");
        dueValues(compiled("f (b : int) (c : int) : int = case cons error error" + match), 0, "0111");
        dueValues(compiled("f (b : int) (c : int) : int = case error" + match), 0, "0000");
    }

    private static void namesOfCase() {
        about = "with 1 for both NAMES";
        dueValues(compiled("f (l : list) : int = case l of empty -> error | h : t -> h;"), 0, "01");
        dueValues(compiled("f (l : list) : list = case l of empty -> error | h : t -> t;"), 0, "01");
        dueValues(compiled("f (a : int) : int = case cons a error of empty -> error | h : t -> h;"), 0, "11");
        dueValues(compiled("f (a : int) : int = case cons a error of empty -> error | h : a -> h;"), 0, "11");
        dueValues(compiled("f (a : int) : int = case nil of empty -> error | a : t -> a;"), 0, "11");
        dueValues(compiled("f (a : int) : int = case nil of empty -> error | b : t -> a;"), 0, "01");
    }

    private static void lets() {
        about = "of let the second one, with the first one's for its NAME";
        dueValues(compiled("f (a : int) (b : int) : int = let c : int = a in b;"), 0, "0101");
        dueValues(compiled("f (a : int) (b : int) : int = let c : int = a in c;"), 0, "0011");
        dueValues(compiled("f (a : int) (b : int) : int = let a : int = b in a;"), 0, "0101");
        dueValues(compiled("f (a : int) (b : int) : int = let a : int = a + b in let a : int = a in a;"), 0, "0001");
        dueValues(compiled("f : int = let a : int = error in 1;"), 0, "1");
        dueValues(compiled("f : int = let a : int = error in a;"), 0, "0");
        dueValues(compiled("f : list = let a : list = nil in a;"), 0, "1");
        // The same NAME beside it, and in the first part of its own.
        dueValues(compiled("f (a : int) : int = (let b : int = error in 1) + (let b : int = a in b);"), 0, "01");
        dueValues(compiled("f (a : int) : int = let b : int = let b : int = a in b in b;"), 0, "01");
    }

    // ---------------------------------------------------------------- shapes and cases

    private static void shapesOfOne() {
        about = "BASE -> BASE three SHAPES: 0 always 0, 1 as its argument, 2 always 1";
        for (String base : new String[] {"int", "list"}) {
            dueValues(compiled("f (g : " + base + " -> int) (x : " + base + ") : int = g x;"), 0, "000111");
            dueValues(compiled("f (g : " + base + " -> list) (x : " + base + ") : list = g x;"), 0, "000111");
            dueValues(compiled("f (x : " + base + ") (g : " + base + " -> int) : int = g x;"), 0, "001011");
        }
        dueValues(compiled("f (g : int -> int) : int = g 1;"), 0, "011");
        dueValues(compiled("f (g : int -> int) : int = g error;"), 0, "001");
        dueValues(compiled("f (g : int -> int) : int = g (g error);"), 0, "001");
    }

    private static void shapesOfTwo() {
        about = "BASE -> BASE -> BASE six";
        StringBuilder all = new StringBuilder();
        for (String shape : SHAPES) {
            all.append(shape);
        }
        for (String base : new String[] {"int", "list"}) {
            dueValues(compiled("f (g : int -> " + base + " -> int) (x : int) (y : " + base + ") : int = g x y;"), 0,
                all.toString());
            dueValues(compiled("f (g : " + base + " -> int -> list) (x : " + base + ") (y : int) : list = g x y;"), 0,
                all.toString());
        }
        dueValues(compiled("f (g : int -> int -> int) : int = g error error;"), 0, "000001");
        dueValues(compiled("f (g : int -> int -> int) : int = g error 1;"), 0, "000111");
        dueValues(compiled("f (g : int -> int -> int) : int = g 1 error;"), 0, "001011");
        dueValues(compiled("f (g : int -> int -> int) : int = g 1 1;"), 0, "011111");
    }

    private static void numbersOfCases() {
        about = "its number: the first PARAMETER's, times how many the second one has, and the second's, and so on";
        String head = "f (a : int) (g : int -> int) (h : int -> int -> int) (b : list) : int = ";
        LazyStrict[] of = {compiled(head + "a;"), compiled(head + "g error;"), compiled(head + "g 1;"),
            compiled(head + "h error error;"), compiled(head + "h 1 1;"),
            compiled(head + "case b of empty -> 1 | x : y -> 1;")};
        for (int number = 0; number < 72; number++) {
            int b = number % 2;
            int h = number / 2 % 6;
            int g = number / 12 % 3;
            int a = number / 36;
            int[] want = {a, g == 2 ? 1 : 0, g >= 1 ? 1 : 0, h == 5 ? 1 : 0, h >= 1 ? 1 : 0, b};
            for (int i = 0; i < of.length; i++) {
                due("value(0, " + number + ") of text " + i, of[i].value(0, number), want[i]);
            }
        }
        // The CASE that ATOMS make has the same number.
        dueValues(compiled("f (a : int) (b : int) (c : int) : int = g c a b; g (a : int) (b : int) (c : int) : int ="
            + " if a then b else c;"), 0, "00010101");
    }

    private static void firstAndLastCase() {
        about = "value: there is none such";
        String two = "int -> int -> int";
        String[] heads = {"", "(a : int)", "(a : int -> int)", "(a : " + two + ")", "(a : list) (b : int)",
            "(a : " + two + ") (b : " + two + ") (c : int -> int) (d : int -> int) (e : int -> int)"};
        int[] cases = {1, 2, 3, 6, 4, 972};
        for (int i = 0; i < heads.length; i++) {
            LazyStrict x = compiled("e : int = error; f " + heads[i] + " : int = 1; g : int = error;");
            int count = cases[i];
            due("function(1, 2)", x.function(1, 2), count);
            due("value(1, 0)", x.value(1, 0), 1);
            due("value(1, " + (count - 1) + ")", x.value(1, count - 1), 1);
            for (int bad : new int[] {-1, count, count + 1, Integer.MIN_VALUE, Integer.MAX_VALUE}) {
                outside("value(1, " + bad + ") of " + count, () -> x.value(1, bad));
            }
            due("value(0, 0)", x.value(0, 0), 0);
            outside("value(-1, 0)", () -> x.value(-1, 0));
            due("value(2, 0)", x.value(2, 0), 0);
            outside("value(3, 0)", () -> x.value(3, 0));
        }
        about = "the greatest CASE of a FUNCTION";
        LazyStrict last = compiled("f " + heads[5] + " : int = a 1 (b 1 (c 1)) * d 1 * e 1;");
        due("value(0, 971)", last.value(0, 971), 1);
        due("value(0, 0)", last.value(0, 0), 0);
        LazyStrict strictest = compiled("f " + heads[5] + " : int = a error error * b error error * c error * d error"
            + " * e error;");
        for (int number = 0; number < 400; number++) {
            int at = 971 - number;
            due("value(0, " + at + ")", strictest.value(0, at), at == 971 ? 1 : 0);
        }
    }

    private static void fewerAtoms() {
        about = "A NAME with fewer ATOMS has the SHAPE that is so for all points that are still to come";
        String[] bodies = {"error", "x + y", "x", "y", "if 1 then x else y", "1"};
        String use = "one (g : int -> int) (y : int) : int = g y; two (g : int -> int -> int) (x : int) (y : int) : int = g x y;";
        for (int i = 0; i < 6; i++) {
            LazyStrict x = compiled("s (x : int) (y : int) : int = " + bodies[i] + ";" + use
                + "none (x : int) (y : int) : int = two s x y; some (x : int) (y : int) : int = one (s x) y;"
                + "off (x : int) (y : int) : int = 1;"
                + "local (g : int -> int -> int) (x : int) (y : int) : int = one (g x) y;"
                + "through (x : int) (y : int) : int = local s x y;");
            for (int f : new int[] {0, 3, 4, 7}) {
                dueValues(x, f, SHAPES[i]);
            }
            dueValues(x, 6, String.join("", SHAPES));
        }
        // Behind ATOMS of all points and SHAPES: the same as with all ATOMS at once.
        for (String body : bodies) {
            LazyStrict x = compiled("t (p : int) (q : int -> int) (r : int -> int -> int) (x : int) (y : int) : int ="
                + " if r p (q error) then " + body + " else x * p;" + use
                + "m (p : int) (q : int -> int) (r : int -> int -> int) (x : int) (y : int) : int = two (t p q r) x y;"
                + "n (p : int) (q : int -> int) (r : int -> int -> int) (x : int) (y : int) : int = one (t p q r x) y;");
            for (int number = 0; number < 144; number++) {
                due("value(3, " + number + ")", x.value(3, number), x.value(0, number));
                due("value(4, " + number + ")", x.value(4, number), x.value(0, number));
            }
        }
        // Behind ATOMS that are functions themselves.
        dueValues(compiled("k (g : int -> int) (h : int -> int -> int) (x : int) (y : int) : int = h (g x) y;" + use
            + "add (x : int) (y : int) : int = x + y; yes (x : int) : int = 1; no (x : int) : int = error;"
            + "m (x : int) (y : int) : int = two (k yes add) x y; n (x : int) (y : int) : int = two (k no add) x y;"), 6,
            "0101");
    }

    // ---------------------------------------------------------------- rounds

    private static void atFirstAllAreZero() {
        about = "At first all VALUES are 0";
        dueValues(compiled("f : int = f;"), 0, "0");
        dueValues(compiled("f (a : int) : int = f a;"), 0, "00");
        dueValues(compiled("f (a : int) : int = if a then f 1 else f 1;"), 0, "00");
        dueValues(compiled("f : int = g; g : int = f;"), 1, "0");
        dueValues(compiled("f (a : int) : int = if 1 then 1 else f a;"), 0, "11");
    }

    private static void roundsTillNothingChanges() {
        about = "ROUNDS are done till one changes nothing (it counts)";
        due("nothing", compiled("").rounds(), 1);
        due("blanks", compiled(" \n").rounds(), 1);
        due("all 0", compiled("f : int = error;").rounds(), 1);
        due("a loop", compiled("f (a : int) : int = f a;").rounds(), 1);
        due("one 1", compiled("f : int = 1;").rounds(), 2);
        due("1 beside 0", compiled("e : int = error; f : int = 1; g : int = e;").rounds(), 2);
        due("one behind another", compiled("f : int = 1; g : int = f;").rounds(), 3);
        due("one before another", compiled("g : int = f; f : int = 1;").rounds(), 3);
        for (int count : new int[] {39, 40}) {
            StringBuilder forth = new StringBuilder("f0:int=1;");
            StringBuilder back = new StringBuilder("f0:int=1;");
            for (int f = 1; f < count; f++) {
                forth.append("f" + f + ":int=f" + (f - 1) + ";");
                back.insert(0, "f" + f + ":int=f" + (f - 1) + ";");
            }
            due("a chain of " + count, compiled(forth.toString()).rounds(), count + 1);
            due("a chain of " + count, compiled(back.toString()).rounds(), count + 1);
        }
        // Each round one PARAMETER more is seen.
        String eight = "f (a:int)(b:int)(c:int)(d:int)(e:int)(g:int)(h:int)(i:int):int=if 1 then a else f b c d e g h i error;";
        LazyStrict x = compiled(eight);
        due("eight PARAMETERS", x.rounds(), 9);
        for (int number = 0; number < 256; number++) {
            due("value(0, " + number + ")", x.value(0, number), number == 0 ? 0 : 1);
        }
        due("rounds() with a fault", faulty().rounds(), 0);
        due("rounds() before compile()", fed(eight).rounds(), 0);
    }

    private static LazyStrict faulty() {
        LazyStrict x = fed("f : int = 1; g : int = nil;");
        due("compile()", x.compile(), -7);
        return x;
    }

    // ---------------------------------------------------------------- strict ones

    private static void dueStrict(LazyStrict x, int f, String want) {
        due("PARAMETERS of " + f, x.function(f, 0), want.length());
        for (int i = 0; i < want.length(); i++) {
            due("parameter(" + f + ", " + i + ", 1)", x.parameter(f, i, 1), want.charAt(i) - '0');
        }
    }

    private static void strictParameters() {
        about = "A PARAMETER of a BASE is STRICT, if the VALUE is 0 for the CASE with 0 for it";
        String eight = "(a:int)(b:int)(c:int)(d:int)(e:int)(g:int)(h:int)(i:int) : int = ";
        dueStrict(compiled("f " + eight + "a + b + c + d + e + g + h + i;"), 0, "11111111");
        dueStrict(compiled("f " + eight + "1;"), 0, "00000000");
        dueStrict(compiled("f " + eight + "a;"), 0, "10000000");
        dueStrict(compiled("f " + eight + "i;"), 0, "00000001");
        dueStrict(compiled("f " + eight + "error;"), 0, "11111111");
        dueStrict(compiled("f " + eight + "if a then b + c else c + d;"), 0, "10100000");
        dueStrict(compiled("f (l : list) (a : int) : int = case l of empty -> a | h : t -> a + h;"), 0, "11");
        dueStrict(compiled("f (l : list) (a : int) : int = case l of empty -> a | h : t -> h;"), 0, "10");
        dueStrict(compiled("f (l : list) (a : int) : list = cons a l;"), 0, "00");
        dueStrict(compiled("f : int = 1;"), 0, "");
        about = "one of another TYPE is not";
        dueStrict(compiled("f (g : int -> int) (h : int -> int -> int) : int = g 1 + h 1 2;"), 0, "00");
        dueStrict(compiled("f (g : int -> int) (h : int -> int -> int) (a : int) : int = error;"), 0, "001");
    }

    private static void greatestForTheOthers() {
        about = "and the greatest for each other one";
        dueStrict(compiled("f (g : int -> int) (x : int) : int = g x;"), 0, "00");
        dueStrict(compiled("f (g : int -> int) (x : int) : int = g 1 + x;"), 0, "01");
        dueStrict(compiled("f (g : int -> int -> int) (x : int) (y : int) : int = g x y;"), 0, "000");
        dueStrict(compiled("f (g : int -> int -> int) (x : int) (y : int) : int = g x y * y;"), 0, "001");
        dueStrict(compiled("f (a : int) (b : int) : int = if 1 then a else b;"), 0, "00");
        dueStrict(compiled("f (a : int) (b : int) : int = if a then a else b;"), 0, "10");
        dueStrict(compiled("f (x : int) : int = u id x; u (g : int -> int) (x : int) : int = g x; id (a : int) : int = a;"),
            0, "1");
        dueStrict(compiled("f (x : int) : int = u one x; u (g : int -> int) (x : int) : int = g x; one (a : int) : int = 1;"),
            0, "0");
    }

    private static void dueLets(String text, String want) {
        LazyStrict x = compiled(text);
        int at = -1;
        int strict = 0;
        for (int i = 0; i < want.length(); i++) {
            at = text.indexOf("let", at + 1);
            due("let " + i + " of " + text, x.isStrict(at), want.charAt(i) - '0');
            due("before let " + i, x.isStrict(at - 1), LazyStrict.NONE);
            due("behind let " + i, x.isStrict(at + 1), LazyStrict.NONE);
            strict += want.charAt(i) - '0';
        }
        due("lets of " + text, x.function(0, 4), want.length());
        due("STRICT lets of " + text, x.function(0, 5), strict);
        due("isStrict(-1)", x.isStrict(-1), LazyStrict.NONE);
        due("isStrict at the end", x.isStrict(text.length()), LazyStrict.NONE);
    }

    private static void strictLets() {
        about = "A let is STRICT if its second EXPRESSION is 0 with 0 for its NAME";
        dueLets("f : int = 1;", "");
        dueLets("f : int = let a : int = 1 in a;", "1");
        dueLets("f : int = let a : int = 1 in 2;", "0");
        dueLets("lets : int = outlet; outlet : int = 1;", "");
        due("a NAME that begins so", compiled("lets : int = 1;").isStrict(0), LazyStrict.NONE);
        dueLets("f:int=let a:int=1 in error;", "1");
        dueLets("f : int = let a : int = error in 1;", "0");
        dueLets("f : list = let a : list = nil in a;", "1");
        dueLets("f : list = let a : list = nil in cons 1 a;", "0");
        dueLets("f : int = let a : int = 1 in let a : int = 2 in a;", "01");
        dueLets("f : int = let a : int = 1 in let b : int = a in b;", "11");
        dueLets("f : int = let a : int = 1 in let b : int = a in 1;", "00");
        dueLets("f : int = let a : int = let b : int = 1 in b in 2;", "01");
        dueLets("f : int = let a : int = 1 in f2 a; f2 (b : int) : int = b;", "1");
        dueLets("f : int = let a : int = 1 in f2 a; f2 (b : int) : int = 1;", "0");
        dueLets("f : int = let a : int = 1 in f;", "1");
        about = "and with the greatest for all other locals";
        dueLets("f (x : int) : int = let a : int = 1 in if x then 1 else a;", "0");
        dueLets("f (x : int) : int = let a : int = 1 in x + a;", "1");
        dueLets("f (x : int) : int = let a : int = error in let b : int = 1 in if a then b else 2;", "10");
        dueLets("f (g : int -> int) : int = let a : int = 1 in g a;", "0");
        dueLets("f (g : int -> int) : int = let a : int = 1 in g 1 * a;", "1");
        dueLets("f (g : int -> int -> int) : int = let a : int = 1 in g a a;", "0");
        dueLets("f (l : list) : int = case l of empty -> 0 | h : t -> let a : int = 1 in h + a;", "1");
        dueLets("f (l : list) : int = let a : int = 1 in case l of empty -> a | h : t -> h;", "0");
    }

    private static void countsOfFunctions() {
        about = "function: how many PARAMETERS, CASES, locals, lets";
        String before = "f : int = 1; g (a:int)(b:int)(c:int)(d:int)(e:int)(g:int)(h:int)(i:list) : list ="
            + " case i of empty -> let z : int = 1 in i | x : y -> y;";
        LazyStrict x = compiled(before + "h (a : int) : int = 1;");
        int[][] want = {{0, 0, 1, 0, 0, 0, 0}, {8, 1, 256, 11, 1, 0, 13}, {1, 0, 2, 1, 0, 0, before.length()}};
        for (int f = 0; f < 3; f++) {
            for (int what = 0; what < 7; what++) {
                due("function(" + f + ", " + what + ")", x.function(f, what), want[f][what]);
            }
            int of = f;
            outside("function(" + f + ", -1)", () -> x.function(of, -1));
            outside("function(" + f + ", 7)", () -> x.function(of, 7));
        }
        outside("function(-1, 0)", () -> x.function(-1, 0));
        outside("function(3, 0)", () -> x.function(3, 0));
        // The first and the last EXPRESSION of a FUNCTION are its own.
        LazyStrict y = compiled("f : int = 1; g : int = let a : int = 1 in a; h : int = 1; i : int = let a : int = 1 in 2;");
        int[] lets = {0, 1, 0, 1};
        int[] strict = {0, 1, 0, 0};
        for (int f = 0; f < 4; f++) {
            due("lets of " + f, y.function(f, 4), lets[f]);
            due("STRICT lets of " + f, y.function(f, 5), strict[f]);
        }
    }
}
