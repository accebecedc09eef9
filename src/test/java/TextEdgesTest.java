import java.util.ArrayList;
import java.util.List;

/**
 * Sections 1 and 2 of the document, sentence by sentence, where one names a least or a greatest,
 * something empty or full, an end, a first or a last: the last text that is taken, and the first
 * that is not.
 */
public final class TextEdgesTest extends Check {
    private static final String[] WORDS = {"int", "list", "let", "in", "if", "then", "else", "case", "of", "empty",
        "nil", "cons", "error"};
    private static final String SIGNS = "():=;|+-*/<";

    public static void main(String[] args) {
        sizeOfTheText();
        octets();
        asLongAsCanBe();
        blanks();
        names();
        allShortNames();
        words();
        numbers();
        countOfTokens();
        firstOfFaultOne();
        anyNumberOfTimes();
        types();
        comparedOnce();
        theEnd();
        within();
        withinThroughEachPart();
        signsOfOneSum();
        signsOfOneTerm();
        threeBeforeTwo();
        countOfFunctions();
        countOfParameters();
        countOfLocals();
        twoThreeFourAtTheFirst();
        sameNames();
        scopes();
        mainPlaces();
        wanted();
        tooManyAtoms();
        whatIsLeft();
        orderOfSixAndSeven();
        countOfCases();
        orderOfFaults();
        end();
    }

    // ---------------------------------------------------------------- tokens

    private static void sizeOfTheText() {
        about = "THE TEXT has at most 4000 octets";
        String first = "f : int = 1;";
        String last = "g : int = 2;";
        LazyStrict x = compiled(first + " ".repeat(4000 - 24) + last);
        due("functions() of 4000 octets", x.functions(), 2);
        due("the last function's place", x.function(1, 6), 4000 - 12);
        illegal("feed(1) at 4000", () -> x.feed(1, ' '));
        illegal("feed(8) at 4000", () -> x.feed(8, ' '));
        due("functions() behind it", x.functions(), 2);
        due("wipe() of 4000 octets", x.wipe(), 4000);
        due("feed(1) behind wipe()", x.feed(1, ' '), 1);
        for (int n = 1; n <= 8; n++) {
            int octets = n;
            LazyStrict fits = fed(" ".repeat(4000 - n));
            due("feed(" + n + ") to 4000", fits.feed(n, packed(" ".repeat(n))), 4000);
            LazyStrict over = fed(" ".repeat(4001 - n));
            illegal("feed(" + n + ") to 4001", () -> over.feed(octets, packed(" ".repeat(octets))));
            due("wipe() behind it", over.wipe(), 4001 - n);
        }
        dueFault(" ".repeat(3999) + "#", 1, 3999);
        dueFault(" ".repeat(3999) + ";", 2, 3999);
        dueFault(" ".repeat(3999) + "f", 2, 4000);
        dueFine(" ".repeat(4000), 0);
        dueFault("f" + "\n".repeat(3999), 2, 4000);
    }

    /** Every octet behind a whole function: a blank, the begin of a TOKEN, or none. */
    private static void octets() {
        about = "no TOKEN begins there";
        String function = "f:int=1;";
        for (int octet = 0; octet < 256; octet++) {
            String text = function + (char) octet;
            if (octet == 32 || octet == 10) {
                dueFine(text, 1);
            } else if (octet >= 'a' && octet <= 'z') {
                dueFault(text, 2, 9);
            } else if (octet >= '0' && octet <= '9' || SIGNS.indexOf(octet) >= 0) {
                dueFault(text, 2, 8);
            } else {
                dueFault(text, 1, 8);
            }
        }
        about = "a letter a-z, then letters a-z and digits";
        for (int octet = 0; octet < 256; octet++) {
            boolean belongs = octet >= 'a' && octet <= 'z' || octet >= '0' && octet <= '9';
            String text = "f" + (char) octet + ":int=1;";
            LazyStrict x = fed(text);
            boolean blank = octet == 32 || octet == 10;
            due("compile() with octet " + octet + " in a NAME", x.compile() == 1 ? 1 : 0, belongs || blank ? 1 : 0);
        }
    }

    private static void asLongAsCanBe() {
        about = "TOKENS, each as long as can be";
        dueFine("f(x:int->int):int=1;", 1);
        dueFaultAt(1, "f(x:int- ^>int):int=1;");
        dueFaultAt(2, "f(x:int^-");
        dueFaultAt(2, "f(x:int^-->int):int=1;");
        dueFaultAt(2, "f(x:int->^->int):int=1;");
        dueFaultAt(1, "f(x:int->^>int):int=1;");
        dueFaultAt(2, "f:int=1^->1;");
        dueFaultAt(2, "f:int=1-^->1;");
        dueFaultAt(2, "f:int=12^a;");
        dueFine("f:int=f2a;f2a:int=1;", 2);
        dueFaultAt(2, "f:^int1=1;");
        due("12 is one NUMBER", numbered("f:int=12;", 0), 12);
        due("a-b are three TOKENS", numbered("f:int=a-b;a:int=7;b:int=4;", 0), 3);
        due("nilx is a NAME", numbered("f:int=nilx;nilx:int=5;", 0), 5);
        due("in1 is a NAME", numbered("f:int=let in1:int=6 in in1;", 0), 6);
    }

    private static void blanks() {
        about = "with blanks (32, 10) between them or none";
        String spaced = "f ( x : int -> list ) : int = case x 1 of empty -> 2 | h : t -> h ;";
        dueFine(spaced, 1);
        dueFine(spaced.replace(' ', '\n'), 1);
        dueFine(spaced.replace(" ", " \n \n"), 1);
        dueFine("\n  " + spaced + " \n\n", 1);
        dueFine("f(x:int->list):int=case x 1of empty->2|h:t->h;", 1);
        dueFaultAt(2, "f : int = 1 ^2;");
        dueFaultAt(2, "f : ^in t = 1;");
        dueFaultAt(2, "f ^g : int = 1;");
        for (int octet : new int[] {0, 8, 9, 11, 12, 13, 31, 33, 127, 160, 255}) {
            dueFault("f" + (char) octet + ": int = 1;", 1, 1);
        }
    }

    private static void names() {
        about = "NAMES: at most 12; a NAME of 13";
        String twelve = "abcdefghijkl";
        dueFine(twelve + " : int = 1;", 1);
        dueFine("z23456789012 : int = 1;", 1);
        dueFine("a : int = 1; z : int = a; a0 : int = z; a9 : int = a0;", 4);
        String[] where = {"^N : int = 1;", "f (^N : int) : int = 1;", "f : int = let ^N : int = 1 in 1;",
            "f : int = case nil of empty -> 1 | ^N : t -> 1;", "f : int = case nil of empty -> 1 | h : ^N -> 1;"};
        for (String text : where) {
            dueFine(text.replace("^N", twelve), 1);
            dueFaultAt(1, text.replace("N", twelve + "m"));
            dueFaultAt(1, text.replace("N", twelve + "0"));
        }
        dueFine("f : int = " + twelve + "; " + twelve + " : int = 1;", 2);
        dueFaultAt(1, "f : int = ^" + twelve + "m; " + twelve + "m : int = 1;");
        dueFaultAt(1, "f : int = ^" + "a".repeat(25) + ";");
        dueFaultAt(1, "^" + "a".repeat(4000));
        dueFaultAt(1, "^errorerrorerr : int = 1;");
        dueFine("errorerrorer : int = 1;", 1);
        // All of the twelve count, and NAMES of other lengths are others.
        dueFine("abcdefghijkl : int = 1; abcdefghijkm : int = 2; abcdefghijk : int = 3; bbcdefghijkl : int = 4;", 4);
        due("the NAME whose last letter is another", numbered("f : int = abcdefghijkm * 10 + abcdefghijkl;"
            + "abcdefghijkl : int = 1; abcdefghijkm : int = 2;", 0), 21);
        dueFine("zzzzzzzzzzzz : int = 1; z99999999999 : int = 2; z9999999999z : int = 3; a : int = 4; aa : int = 5;"
            + "a0 : int = 6; a00 : int = 7;", 7);
        for (String first : new String[] {"a", "z", "a9", "zzzzzzzzzzz"}) {
            StringBuilder text = new StringBuilder("a:int=1;b:int=1;b0:int=1;y9:int=1;");
            for (char letter : "abcdefghijklmnopqrstuvwxyz0123456789".toCharArray()) {
                text.append(first).append(letter).append(":int=1;");
            }
            dueFine(text.toString(), 40);
        }
    }

    /** Texts with all pairs of NAMES that have one or two letters: none of them is another one's. */
    private static void allShortNames() {
        about = "a FUNCTION with the NAME of one before it";
        List<String> names = new ArrayList<>();
        for (char first = 'a'; first <= 'z'; first++) {
            names.add("" + first);
            for (char second : "abcdefghijklmnopqrstuvwxyz0123456789".toCharArray()) {
                names.add("" + first + second);
            }
        }
        names.removeAll(List.of(WORDS));
        for (int i = 0; i < names.size(); i += 20) {
            for (int k = i + 20; k < names.size(); k += 20) {
                StringBuilder text = new StringBuilder();
                for (int n = 0; n < 20; n++) {
                    text.append(names.get(i + n)).append(":int=1;");
                }
                for (int n = k; n < k + 20 && n < names.size(); n++) {
                    text.append(names.get(n)).append(":int=1;");
                }
                due("compile() of " + text, fed(text.toString()).compile(), Math.min(40, 20 + names.size() - k));
            }
        }
    }

    private static void words() {
        about = "WORDS are none";
        for (String word : WORDS) {
            dueFaultAt(2, "^" + word + " : int = 1;");
            dueFaultAt(2, "f (^" + word + " : int) : int = 1;");
            dueFaultAt(2, "f : int = let ^" + word + " : int = 1 in 1;");
            dueFaultAt(2, "f : int = case nil of empty -> 1 | ^" + word + " : t -> 1;");
            dueFaultAt(2, "f : int = case nil of empty -> 1 | h : ^" + word + " -> 1;");
            dueFine(word + "x : int = " + word + "0; " + word + "0 : int = " + word + "x;", 2);
        }
        dueFine("i : int = 1; inn : int = 1; lis : int = 1; lists : int = 1; con : int = 1; erro : int = 1;", 6);
    }

    private static void numbers() {
        about = "NUMBERS (0 .. 2147483647)";
        for (String number : new String[] {"0", "00", "1", "9", "10", "2147483646", "2147483647", "0002147483647",
            "0".repeat(3000) + "7"}) {
            due(number, numbered("f : int = " + number + ";", 0), Integer.parseInt(number));
        }
        for (String number : new String[] {"2147483648", "02147483648", "2147483650", "2999999999", "3000000000",
            "4294967295", "4294967296", "4294967297", "9999999999", "10000000000", "9223372036854775807",
            "9223372036854775808", "18446744073709551615", "18446744073709551616", "18446744073709551617",
            "21474836470", "1" + "0".repeat(3000), "9".repeat(3000)}) {
            dueFaultAt(1, "f : int = ^" + number + ";");
            dueFaultAt(1, "f : int = ^" + number);
        }
    }

    /** A function of thirty TOKENS; there may be forty of these. */
    private static String thirtyTokens(int f) {
        return "f" + (char) ('a' + f / 26) + (char) ('a' + f % 26) + ":int=1" + "+1".repeat(10) + "=1+1;";
    }

    private static void countOfTokens() {
        about = "At most 1200 TOKENS; the 1201st TOKEN (its first octet)";
        StringBuilder text = new StringBuilder();
        for (int f = 0; f < 40; f++) {
            text.append(thirtyTokens(f));
        }
        dueFine(text.toString(), 40);
        dueFine(text + " \n ", 40);
        dueFaultAt(1, text + "^;");
        dueFaultAt(1, text + " \n ^abc");
        dueFaultAt(1, text + "^->");
        dueFaultAt(1, text + "^#");
        dueFaultAt(1, text + "^12;;;;;;#");
        dueFault(text.substring(0, text.length() - 1), 2, text.length() - 1);
        // The end behind 1200 TOKENS can't stand there.
        dueFaultAt(2, text.substring(0, text.length() - 1) + "+^");
        dueFaultAt(2, text.substring(0, text.length() - 1) + "+ \n^");
        dueFaultAt(1, text.substring(0, text.length() - 1) + "+^1");
        // 1200 TOKENS with a fault of their own: it is looked for behind fault 1 alone.
        dueFaultAt(2, "^;" + ";".repeat(1199));
        dueFault(";".repeat(1201), 1, 1200);
        dueFault("; ".repeat(1201), 1, 2400);
        dueFault("1 ".repeat(2000), 1, 2400);
        dueFault(";".repeat(4000), 1, 1200);
    }

    private static void firstOfFaultOne() {
        about = "FAULTS: the first of these that comes";
        dueFaultAt(1, "f : int = 1 ^# $ 2147483648 abcdefghijklm");
        dueFaultAt(1, "f : int = 1 ^2147483648 # abcdefghijklm");
        dueFaultAt(1, "f : int = 1 ^abcdefghijklm # 2147483648");
        dueFault("; ".repeat(1199) + "#" + ";".repeat(9), 1, 2398);
        dueFault("; ".repeat(1200) + ";" + "#", 1, 2400);
        about = "fault 1 before 2 to 8";
        dueFaultAt(1, "; ^#");
        dueFaultAt(1, "f : int = " + "(".repeat(31) + "1 ^#");
        dueFaultAt(1, "f : int = 1" + "+1".repeat(12) + "^#");
        dueFaultAt(1, "f (a : int) (a : int) : int = x; ^#");
        dueFaultAt(1, "f : int = nil; ^#");
    }

    // ---------------------------------------------------------------- the grammar

    private static void anyNumberOfTimes() {
        about = "In { } any number of times";
        dueFine("", 0);
        dueFine("f : int = 1;", 1);
        dueFine("f (a : int) : int = a;", 1);
        dueFine("f : int = g; g : int = 1;", 2);
        // As many ATOMS as there are TOKENS for: a fault of types, at the NAME.
        dueFaultAt(7, "f : int = ^f" + " 1".repeat(1194) + ";");
        dueFaultAt(1, "f : int = f" + " 1".repeat(1194) + "; ^1");
        dueFaultAt(7, "f : int = ^f (1) nil error f 2;");
        due("a NAME's ATOMS end at a sign", numbered("f : int = g 1 2 + g 3 4; g (a : int) (b : int) : int = a * b;", 0), 14);
        due("the left one of + - first", numbered("f : int = 10 - 4 + 3 - 2 - 1;", 0), 6);
        due("the left one of * / first", numbered("f : int = 100 / 7 * 7 / 2 * 3;", 0), 147);
    }

    private static void types() {
        about = "TYPE: one, two or three BASES";
        dueFine("f (a : int) (b : int -> list) (c : list -> int -> list) : int = 1;", 1);
        dueFaultAt(2, "f (a : ^) : int = 1;");
        dueFaultAt(2, "f (a : int -> ^) : int = 1;");
        dueFaultAt(2, "f (a : int -> int -> ^) : int = 1;");
        dueFaultAt(2, "f (a : int -> int -> int ^-> int) : int = 1;");
        dueFaultAt(2, "f (a : ^-> int) : int = 1;");
        dueFaultAt(2, "f (a : int ^int) : int = 1;");
        dueFaultAt(2, "f : int ^-> int = 1;");
        dueFaultAt(2, "f : int = let a : int ^-> int = 1 in 1;");
        dueFaultAt(2, "f (^) : int = 1;");
    }

    private static void comparedOnce() {
        about = "EXPRESSION: SUM | SUM = SUM | SUM < SUM";
        dueFine("f : int = 1 = 2; g : int = 1 < 2; h : int = (1 < 2) = (2 < 3);", 3);
        dueFaultAt(2, "f : int = 1 = 2 ^= 3;");
        dueFaultAt(2, "f : int = 1 < 2 ^< 3;");
        dueFaultAt(2, "f : int = 1 = 2 ^< 3;");
        dueFaultAt(2, "f : int = 1 = ^= 2;");
        dueFaultAt(2, "f : int = ^= 2;");
        dueFaultAt(2, "f : int = 1 <^;");
        dueFaultAt(2, "f : int = 1 + ^+ 2;");
        dueFaultAt(2, "f : int = 1 * ^/ 2;");
        dueFaultAt(2, "f : int = 1 + 2 *^;");
    }

    private static void theEnd() {
        about = "the end: THE TEXT's size";
        String whole = "f ( a : int ) ( b : int -> list -> int ) : list = let c : int = b 1 nil * a in"
            + " if a = c then case cons a nil of empty -> nil | h : t -> cons ( h + 1 ) t else error ;";
        String[] tokens = whole.split(" ");
        StringBuilder before = new StringBuilder(tokens[0]);
        for (int i = 1; i < tokens.length; i++) {
            dueFault(before.toString(), 2, before.length());
            dueFault(before + " \n ", 2, before.length() + 3);
            before.append(' ').append(tokens[i]);
        }
        dueFine(before.toString(), 1);
        dueFine("", 0);
        dueFine(" \n ", 0);
    }

    // ---------------------------------------------------------------- fault 3

    private static void within() {
        about = "EXPRESSIONS lie within at most 29 others";
        for (int n = 0; n <= 29; n++) {
            dueFine("f : int = " + "(".repeat(n) + "1" + ")".repeat(n) + ";", 1);
        }
        for (int n = 30; n <= 40; n++) {
            dueFaultAt(3, "f : int = " + "(".repeat(30) + "^" + "(".repeat(n - 30) + "1" + ")".repeat(n) + ";");
        }
        dueFaultAt(3, "f : int = " + "(".repeat(29) + "1" + ")".repeat(29) + " + " + "(".repeat(30) + "^1;");
        dueFine("f : int = " + "(".repeat(29) + "1" + ")".repeat(29) + " + " + "(".repeat(29) + "1" + ")".repeat(29)
            + "; g : int = " + "(".repeat(29) + "1" + ")".repeat(29) + ";", 2);
        due("29 brackets", numbered("f : int = " + "(".repeat(29) + "7" + ")".repeat(29) + ";", 0), 7);
    }

    /** Each way to an EXPRESSION within another one; _ is where it stands. */
    private static void withinThroughEachPart() {
        about = "the first TOKEN of the EXPRESSION that lies within 30 others";
        String[] ways = {"let a : int = _ in 1", "let a : int = 1 in _", "if _ then 1 else 1", "if 1 then _ else 1",
            "if 1 then 1 else _", "case _ of empty -> 1 | h : t -> 1", "case nil of empty -> _ | h : t -> 1",
            "case nil of empty -> 1 | h : t -> _"};
        for (String way : ways) {
            String inner = way.startsWith("case _") ? "nil" : "1";
            String open = "f : int = " + "(".repeat(28);
            String close = ")".repeat(28) + ";";
            dueFine(open + way.replace("_", inner) + close, 1);
            dueFaultAt(3, open + way.replace("_", "(^" + inner + ")") + close);
        }
        String[] atoms = {"(_)", "g (_)", "g (_) + 1", "1 - (_)", "1 * (_)", "(_) / 1", "1 = (_)", "(_) < 1"};
        for (String atom : atoms) {
            String text = "g (a : int) : int = a; f : int = " + "(".repeat(28) + atom + ")".repeat(28) + ";";
            dueFine(text.replace("_", "1"), 2);
            dueFaultAt(3, text.replace("_", "(^1)"));
        }
        for (String cons : new String[] {"cons (_) nil", "cons 1 (_)"}) {
            String text = "f : list = " + "(".repeat(28) + cons + ")".repeat(28) + ";";
            String inner = cons.endsWith("nil") ? "1" : "nil";
            dueFine(text.replace("_", inner), 1);
            dueFaultAt(3, text.replace("_", "(^" + inner + ")"));
        }
        // One of each kind below the other.
        String mixed = "if 1 then let a : int = 1 in case nil of empty -> (g (".repeat(5) + "(((";
        String behind = ")))" + ")) | h : t -> 1 else 1".repeat(5);
        dueFine("g (a : int) : int = a; f : int = " + mixed + "(1)" + behind + ";", 2);
        dueFaultAt(3, "g (a : int) : int = a; f : int = " + mixed + "((^1))" + behind + ";");
    }

    private static void signsOfOneSum() {
        about = "the 11th + or - of one SUM";
        for (String signs : new String[] {"++++++++++", "----------", "+-+-+-+-+-", "---------+", "+---------"}) {
            StringBuilder text = new StringBuilder("f : int = 1");
            for (int i = 0; i < 10; i++) {
                text.append(signs.charAt(i)).append('1');
            }
            dueFine(text + ";", 1);
            dueFaultAt(3, text + "^+1;");
            dueFaultAt(3, text + "^-1;");
            dueFaultAt(3, text + "^-1+1;");
        }
        String ten = "1" + "+1".repeat(10);
        dueFine("f : int = " + ten + " = " + ten + ";", 1);
        dueFine("f : int = " + ten + " < " + ten + ";", 1);
        dueFaultAt(3, "f : int = " + ten + " < " + ten + "^-1;");
        dueFaultAt(3, "f : int = " + ten + "^+1 < " + ten + ";");
        dueFine("f : int = (" + ten + ")" + "+(1+1)".repeat(10) + ";", 1);
        dueFaultAt(3, "f : int = (" + ten + "^+1)" + "+1".repeat(10) + ";");
        dueFaultAt(3, "f : int = (" + ten + ")" + "+(1+1)".repeat(10) + "^+1;");
        dueFine("f : int = 1" + "*1+1".repeat(10) + ";", 1);
        dueFine("f : int = if " + ten + " then " + ten + " else " + ten + "; g : int = " + ten + ";", 2);
        due("ten + and -", numbered("f : int = 100-1-2-3-4-5-6-7-8-9+1;", 0), 56);
    }

    private static void signsOfOneTerm() {
        about = "the 11th * or / of one TERM";
        for (String signs : new String[] {"**********", "//////////", "*/*/*/*/*/", "/////////*", "*/////////"}) {
            StringBuilder text = new StringBuilder("f : int = 1");
            for (int i = 0; i < 10; i++) {
                text.append(signs.charAt(i)).append('1');
            }
            dueFine(text + ";", 1);
            dueFaultAt(3, text + "^*1;");
            dueFaultAt(3, text + "^/1;");
            dueFaultAt(3, text + "^/1*1;");
            dueFine(text + "+" + text.substring(10) + ";", 1);
            dueFaultAt(3, text + "+" + text.substring(10) + "^*1;");
        }
        String ten = "1" + "*1".repeat(10);
        dueFine("f : int = " + ten + ("-" + ten).repeat(10) + ";", 1);
        dueFaultAt(3, "f : int = " + ten + ("-" + ten).repeat(10) + "^*1;");
        dueFaultAt(3, "f : int = " + ten + ("-" + ten).repeat(10) + "^+1;");
        dueFine("f : int = (" + ten + ")" + "*(1*1)".repeat(10) + "<" + ten + ";", 1);
        due("ten * and /", numbered("f : int = 1*2*3*4*5*6*7*8*9*10/100;", 0), 36288);
    }

    private static void threeBeforeTwo() {
        about = "3 before 2";
        String deep = "f : int = " + "(".repeat(30);
        for (String token : new String[] {";", ")", "in", "empty", "|", "+", "->", "int", "list", "=", "cons", "let"}) {
            dueFaultAt(3, deep + "^" + token);
        }
        dueFaultAt(3, deep + "^");
        dueFaultAt(3, deep + "  ^");
        dueFaultAt(2, "f : int = " + "(".repeat(29) + "^;");
        dueFaultAt(2, "f : int = " + "(".repeat(29) + "^");
        dueFaultAt(2, "f : int = " + "(".repeat(28) + "let a : int = ^in");
        dueFaultAt(3, "f : int = " + "(".repeat(29) + "let a : int = ^in");
        for (String token : new String[] {"", ";", "+", "*", ")", "then", "1"}) {
            dueFaultAt(3, "f : int = 1" + "+1".repeat(10) + "^+ " + token);
            dueFaultAt(3, "f : int = 1" + "*1".repeat(10) + "^/ " + token);
        }
        dueFaultAt(2, "f : int = 1" + "+1".repeat(9) + "+^;");
        dueFaultAt(2, "f : int = 1" + "+1".repeat(10) + " ^1;");
        dueFaultAt(2, "f : int = 1" + "+1".repeat(10) + "^->1;");
    }

    // ---------------------------------------------------------------- fault 4

    private static String functions(int count) {
        StringBuilder text = new StringBuilder();
        for (int f = 0; f < count; f++) {
            text.append("f").append(f).append(":int=").append(f).append(";");
        }
        return text.toString();
    }

    private static void countOfFunctions() {
        about = "the 41st FUNCTION";
        dueFine(functions(39), 39);
        dueFine(functions(40), 40);
        dueFaultAt(4, functions(40) + "^f40:int=1;");
        dueFaultAt(4, functions(40) + " \n ^g");
        dueFaultAt(4, functions(40) + "^f0:int=1;");
        dueFaultAt(4, functions(40) + "^g:int=nil;h:int=1;;");
        dueFaultAt(2, functions(40) + "^;g:int=1;");
        dueFaultAt(2, functions(39) + "g^");
        LazyStrict x = compiled(functions(40));
        due("run of the 40th", x.run(39, 9, false), 1);
        due("its number", x.told(5), 39);
        due("its place", x.function(39, 6), functions(39).length());
        outside("function(40, 0)", () -> x.function(40, 0));
    }

    private static String parameters(int count) {
        StringBuilder text = new StringBuilder();
        for (int i = 0; i < count; i++) {
            text.append("(p").append(i).append(":int)");
        }
        return text.toString();
    }

    private static void countOfParameters() {
        about = "the ninth PARAMETER of one";
        dueFine("f" + parameters(7) + ":int=1;", 1);
        dueFine("f" + parameters(8) + ":int=p7;", 1);
        dueFaultAt(4, "f" + parameters(8) + "(^p8:int):int=1;");
        dueFaultAt(4, "f" + parameters(8) + "(^p0:int):int=1;");
        dueFaultAt(4, "f" + parameters(8) + "(^p8");
        dueFaultAt(2, "f" + parameters(8) + "(^:int):int=1;");
        dueFaultAt(2, "f" + parameters(8) + "(^");
        dueFine("f" + parameters(8) + ":int=1;g" + parameters(8) + ":int=1;", 2);
        dueFaultAt(4, "f" + parameters(8) + ":int=1;g" + parameters(8) + "(^p8:int):int=1;");
        due("the eighth PARAMETER", compiled("f" + parameters(7) + "(p:list):int=1;").parameter(0, 7, 0), 1);
    }

    /** Lets beside one another, none within another. */
    private static String lets(int count) {
        StringBuilder text = new StringBuilder("0");
        for (int i = 0; i < count; i += 5) {
            text.append("+(").append("let a : int = 1 in ".repeat(Math.min(5, count - i))).append("1)");
        }
        return text.toString();
    }

    private static void countOfLocals() {
        about = "the 31st local of one (PARAMETERS, lets, two of each case; its NAME)";
        String match = "(case nil of empty -> 1 | h : t -> 1)";
        dueFine("f:int=" + lets(30) + ";", 1);
        due("30 lets", compiled("f:int=" + lets(30) + ";").function(0, 3), 30);
        dueFaultAt(4, "f:int=" + lets(30) + "+(let ^b : int = 1 in 1);");
        dueFaultAt(2, "f:int=" + lets(30) + "+(let ^1 : int = 1 in 1);");
        dueFaultAt(4, "f:int=" + lets(30) + "+(case nil of empty -> 1 | ^h : t -> 1);");
        dueFaultAt(4, "f:int=" + lets(29) + "+(case nil of empty -> 1 | h : ^t -> 1);");
        dueFaultAt(2, "f:int=" + lets(29) + "+(case nil of empty -> 1 | h : ^1 -> 1);");
        dueFine("f:int=" + lets(28) + "+" + match + ";", 1);
        dueFaultAt(4, "f:int=" + lets(28) + "+" + match + "+(let ^b : int = 1 in 1);");
        dueFine("f" + parameters(8) + ":int=" + lets(22) + ";", 1);
        dueFaultAt(4, "f" + parameters(8) + ":int=" + lets(22) + "+(let ^b : int = 1 in 1);");
        dueFine("f" + parameters(8) + ":int=" + lets(20) + "+" + match + ";", 1);
        dueFaultAt(4, "f" + parameters(8) + ":int=" + lets(20) + "+(case nil of empty -> 1 | h : t -> let ^b : int");
        String fifteen = "0" + ("*" + match).repeat(10) + "+0" + ("*" + match).repeat(5);
        dueFine("f:int=" + fifteen + ";", 1);
        due("15 cases", compiled("f:int=" + fifteen + ";").function(0, 3), 30);
        dueFaultAt(4, "f:int=" + fifteen + "+(case nil of empty -> 1 | ^h : t -> 1);");
        dueFine("f:int=" + lets(30) + ";g:int=" + lets(30) + ";", 2);
        dueFaultAt(4, "f:int=" + lets(30) + ";g:int=" + lets(30) + "+(let ^b : int = 1 in 1);");
        due("the 30th local", numbered("f:int=" + lets(29) + "*0+(let z : int = 9 in z);", 0), 5 + 9);
    }

    private static void twoThreeFourAtTheFirst() {
        about = "of 2, 3, 4 the one at the first TOKEN";
        String deep = "(".repeat(30);
        String full = "f:int=" + lets(30) + "+(let ";
        dueFaultAt(4, full + "^b : int = " + deep + "1 ;;");
        dueFaultAt(2, "f : int = 1 ^1; " + full.substring(0, 6) + deep + "1;");
        dueFaultAt(3, "f : int = " + deep + "^1 1; " + full + "b : int = 1;");
        dueFaultAt(3, "f : int = 1" + "+1".repeat(10) + "^+1; g (a) : int = 1;");
        dueFaultAt(2, "f : int = 1" + "+1".repeat(10) + "; g (a^) : int = 1" + "+1".repeat(11) + ";");
        dueFaultAt(4, functions(40) + "^g : int = " + deep + "1;");
        dueFaultAt(3, functions(39) + "g : int = " + deep + "^1; h : int = 1;");
        dueFaultAt(4, "f" + parameters(8) + "(^p8:int):int=" + deep + "1;");
        dueFaultAt(2, "f" + parameters(7) + "(p8:^):int=" + deep + "1;");
    }

    // ---------------------------------------------------------------- faults 5 to 8

    private static void sameNames() {
        about = "5: the first NAME";
        dueFaultAt(5, "f : int = 1; ^f : int = 1;");
        dueFaultAt(5, "f : int = 1; g : int = 1; ^g : int = 1; f : int = 1;");
        dueFaultAt(5, "f : int = 1; ^f : list = nil; f : int = 1;");
        dueFaultAt(5, "f (a : int) (^a : int) (a : int) : int = 1;");
        dueFaultAt(5, "f (a : int) (b : int) (c : int) (d : int) (e : int) (g : int) (h : int) (^a : int) : int = 1;");
        dueFaultAt(5, "f : int = 1; ^f (a : int) (a : int) : int = 1;");
        dueFaultAt(5, "f (a : int) (^a : int) : int = 1; f : int = 1;");
        dueFaultAt(5, functions(39) + "^f0:int=1;");
        dueFaultAt(5, functions(39) + "^f38:int=1;");
        dueFaultAt(5, "abcdefghijkl : int = 1; abcdefghijkm : int = 1; ^abcdefghijkl : int = 1;");
        dueFine("abcdefghijk : int = 1; abcdefghijkl : int = 1; abcdefghijkm : int = 1;", 3);
        dueFine("f (a : int) : int = 1; g (a : int) : int = 1; a : int = 1;", 3);
        dueFine("f (f : int) : int = f;", 1);
        dueFine("f (a : int) : int = let a : int = 1 in let a : int = 2 in a;", 1);
    }

    private static void scopes() {
        about = "Locals: where a scope begins and ends";
        dueFaultAt(6, "f : int = let a : int = ^a in a;");
        dueFine("f : int = let a : int = 1 in a;", 1);
        dueFaultAt(6, "f : int = (let a : int = 1 in a) + ^a;");
        dueFaultAt(6, "f : int = case nil of empty -> ^h | h : t -> 1;");
        dueFaultAt(6, "f : list = case nil of empty -> ^t | h : t -> t;");
        dueFaultAt(6, "f : list = case ^t of empty -> nil | h : t -> t;");
        dueFaultAt(6, "f : int = (case nil of empty -> 1 | h : t -> h) + ^h;");
        dueFaultAt(6, "f : list = cons 1 (case (case nil of empty -> nil | h : t -> t) of empty -> ^t | g : s -> s);");
        dueFaultAt(6, "f (a : int) : int = a; g : int = ^a;");
        dueFaultAt(6, "f : int = let a : int = 1 in a; g : int = ^a;");
        dueFaultAt(6, "f : int = ^b; g (b : int) : int = b;");
        due("a PARAMETER in the whole FUNCTION", numbered("f (a : int) : int = a + (let b : int = a in b + a) + a;", 0, 5), 20);
        due("before its in the outer one is meant", numbered("f (a : int) : int = let a : int = a + 1 in a * 2;", 0, 5), 12);
        due("behind the let the outer one is meant", numbered("f (a : int) : int = (let a : int = 9 in a) * 0 + a;", 0, 5), 5);
        due("before the second -> the outer one", numbered("f (h : int) : int = case nil of empty -> h | h : t -> 1;", 0, 5), 5);
        due("behind the second -> the inner one",
            numbered("f (h : int) : int = (case cons 7 nil of empty -> 0 | h : t -> h) * 10 + h;", 0, 5), 75);
        due("a FUNCTION where no local is", numbered("f : int = (let g : int = 2 in g) * 10 + g; g : int = 3;", 0), 23);
        due("a FUNCTION before the in", numbered("f : int = let g : int = g in g + 1; g : int = 3;", 0), 4);
        due("a FUNCTION's own NAME", numbered("f : int = let f : int = 4 in f;", 0), 4);
    }

    private static void mainPlaces() {
        about = "7: its MAIN PLACE";
        String[] ints = {"^1", "1 ^+ 2", "1 ^- 2", "1 ^* 2", "1 ^/ 2", "1 ^= 2", "1 ^< 2", "1 + 2 ^+ 3", "1 * 2 ^* 3",
            "1 ^+ 2 * 3", "1 * 2 ^- 3", "1 + 2 ^< 3 * 4", "(^1)", "((^1))", "((1) ^+ (2))", "^i", "(^i)", "^j 1", "(^j (1))",
            "if 1 then ^1 else nil", "let a : int = 1 in ^a", "case nil of empty -> (^1) | h : t -> t",
            "case nil of empty -> nil | h : t -> ^h"};
        for (String one : ints) {
            dueFaultAt(7, "i : int = 1; j (a : int) : int = 1; f : list = " + one + ";");
        }
        String[] lists = {"^nil", "^cons 1 nil", "(^cons 1 nil)", "^l", "(^l)", "^m 1", "^nil + 1", "1 + (^nil)", "1 - ^l",
            "2 * ^nil", "(^cons 1 nil) / 2", "1 = ^m 1", "^nil < 1", "1 + 2 + ^nil", "^nil + 2 + 3", "1 + ^nil + 3",
            "if ^nil then 1 else 1", "if 1 then 1 else ^nil", "let a : list = nil in ^a", "let a : int = ^nil in a",
            "case ^1 of empty -> 1 | h : t -> 1", "case 1 ^+ 1 of empty -> 1 | h : t -> 1"};
        for (String one : lists) {
            dueFaultAt(7, "l : list = nil; m (a : int) : list = nil; f : int = " + one + ";");
        }
        String[] functions = {"^1", "^nil", "^error", "(^cons 1 nil)", "(1 ^+ 2)", "(1 ^< 2)", "(^let a : int = 1 in k)",
            "(^if 1 then k else k)", "(^case nil of empty -> k | h : t -> k)", "((^error))", "^i", "(^k 1)", "^two"};
        for (String one : functions) {
            dueFaultAt(7, "i : int = 1; k (a : int) : int = 1; two (a : int) (b : int) : int = 1;"
                + "use (g : int -> int) : int = g 1; f : int = use " + one + ";");
        }
    }

    private static void wanted() {
        about = "error is any BASE, and no other TYPE";
        dueFine("f : int = error; g : list = error; h : int = error + error; i : list = cons error error;"
            + "j : int = case error of empty -> error | a : b -> error; k : int = let a : list = error in error;", 6);
        dueFaultAt(7, "use (g : int -> int) : int = use ^error;");
        dueFaultAt(7, "use (g : int -> list -> int) : int = use ^error;");
        dueFaultAt(7, "l : int = use (k ^error) ; k (g : int -> int) (a : int) : int = 1; use (g : int -> int) : int = 1;");
        about = "cons's first ATOM int, of the second list";
        dueFaultAt(7, "f : list = cons ^nil nil;");
        dueFaultAt(7, "f : list = cons 1 ^1;");
        dueFaultAt(7, "f : list = cons ^nil 1;");
        about = "each wanted of its ATOM";
        String g = "g (a : int) (b : list) (c : int -> list) : int = 1; h (a : int) : list = nil;";
        dueFine(g + "f : int = g 1 nil h;", 3);
        dueFaultAt(7, g + "f : int = g ^nil 1 1;");
        dueFaultAt(7, g + "f : int = g 1 ^1 1;");
        dueFaultAt(7, g + "f : int = g 1 nil ^1;");
        dueFine("f (k : int -> list -> int) : int = k 1 nil;", 1);
        dueFaultAt(7, "f (k : int -> list -> int) : int = k ^nil 1;");
        dueFaultAt(7, "f (k : int -> list -> int) : int = k 1 ^1;");
    }

    private static void tooManyAtoms() {
        about = "If there are fewer of them: 7 at the NAME";
        dueFaultAt(7, "f : int = ^i 1; i : int = 1;");
        dueFaultAt(7, "f : int = ^j 1 1; j (a : int) : int = 1;");
        dueFine("f : int = j 1; j (a : int) : int = 1;", 2);
        dueFaultAt(7, "f : int = ^j; j (a : int) : int = 1;");
        dueFine("f : int = g 1 2 3 4 5 6 7 8; g" + parameters(8) + ":int=1;", 2);
        dueFaultAt(7, "f : int = ^g 1 2 3 4 5 6 7 8 9; g" + parameters(8) + ":int=1;");
        dueFaultAt(7, "f : int = ^g 1 2 3 4 5 6 7; g" + parameters(8) + ":int=1;");
        dueFaultAt(7, "f (a : int) : int = ^a 1;");
        dueFaultAt(7, "f (a : int -> int) : int = ^a;");
        dueFine("f (a : int -> int) : int = a 1;", 1);
        dueFaultAt(7, "f (a : int -> int) : int = ^a 1 1;");
        dueFaultAt(7, "f (a : int -> int -> int) : int = ^a 1;");
        dueFine("f (a : int -> int -> int) : int = a 1 1;", 1);
        dueFaultAt(7, "f (a : int -> int -> int) : int = ^a 1 1 1;");
        dueFaultAt(7, "f : int = let a : int = 1 in ^a 1;");
        dueFaultAt(7, "f : int = case nil of empty -> 1 | h : t -> ^h t;");
        // First it is looked whether what is left is what is wanted; then at the ATOMS.
        dueFaultAt(7, "f : int = ^j x; j (a : int) : list = nil;");
        dueFaultAt(7, "f : int = ^j x x; j (a : int) : int = 1;");
        dueFaultAt(6, "f : int = j ^x; j (a : int) : int = 1;");
    }

    private static void whatIsLeft() {
        about = "what is left is its TYPE";
        String one = "one (g : int -> int) : int = g 1; two (g : int -> int -> int) : int = g 1 2;";
        for (int count = 1; count <= 8; count++) {
            String g = "g" + parameters(count) + ":int=1;";
            for (int atoms = 0; atoms <= count + 1; atoms++) {
                String call = "(^g" + " 1".repeat(atoms) + ");";
                fits(one + g + "f : int = one " + call, 4, count - atoms == 1);
                fits(one + g + "f : int = two " + call, 4, count - atoms == 2);
                fits(one + g + "f : int = 0 + " + call, 4, count - atoms == 0);
            }
        }
        // The BASES count, and a PARAMETER that is a function is none.
        String use = "use (g : int -> list -> int) : int = g 1 nil; ";
        dueFine(use + "g (a : int) (b : list) : int = 1; f : int = use g;", 3);
        dueFaultAt(7, use + "g (a : list) (b : list) : int = 1; f : int = use ^g;");
        dueFaultAt(7, use + "g (a : int) (b : int) : int = 1; f : int = use ^g;");
        dueFaultAt(7, use + "g (a : int) (b : list) : list = b; f : int = use ^g;");
        dueFaultAt(7, use + "g (a : int -> int) (b : list) : int = 1; f : int = use ^g;");
        dueFaultAt(7, use + "g (a : int) (b : int -> list) : int = 1; f : int = use ^g;");
        for (int wanted = 2; wanted < 14; wanted++) {
            for (int has = 2; has < 14; has++) {
                dueLeft(wanted, has);
            }
        }
        String tail = "use (g : list -> int) : int = g nil; ";
        dueFine(tail + "f (k : int -> list -> int) : int = use (k 1);", 2);
        dueFaultAt(7, tail + "f (k : list -> int -> int) : int = use (^k nil);");
        dueFaultAt(7, tail + "f (k : int -> list -> list) : int = use (^k 1);");
        dueFaultAt(7, tail + "f (k : int -> list -> int) : int = use ^k;");
        dueFaultAt(7, tail + "f (k : int -> list -> int) : int = use (^k 1 nil);");
        dueFaultAt(7, tail + "f (k : int -> list -> int) : int = use (k ^nil);");
    }

    private static String base(int bit) {
        return bit == 0 ? "int" : "list";
    }

    /** A TYPE of two or three BASES by its number. */
    private static String type(int number) {
        if (number < 6) {
            return base((number - 2) / 2) + " -> " + base((number - 2) % 2);
        }
        return base((number - 6) / 4) + " -> " + base((number - 6) / 2 % 2) + " -> " + base((number - 6) % 2);
    }

    /** A FUNCTION, and a local, of one TYPE where another one is wanted; and a local with one ATOM. */
    private static void dueLeft(int wanted, int has) {
        String use = "use (g : " + type(wanted) + ") : int = 1; ";
        String[] bases = type(has).split(" -> ");
        StringBuilder function = new StringBuilder("k ");
        for (int i = 0; i + 1 < bases.length; i++) {
            function.append("(p").append(i).append(" : ").append(bases[i]).append(") ");
        }
        function.append(": ").append(bases[bases.length - 1]).append(" = error; ");
        String local = "f (k : " + type(has) + ") : int = use ";
        String given = bases[0].equals("int") ? "1" : "nil";
        String left = type(has).substring(type(has).indexOf("->") + 3);
        fits(use + function + "f : int = use ^k;", 3, wanted == has);
        fits(use + local + "^k;", 2, wanted == has);
        fits(use + function + "f : int = use (^k " + given + ");", 3, type(wanted).equals(left));
        fits(use + local + "(^k " + given + ");", 2, type(wanted).equals(left));
    }

    private static void fits(String marked, int functions, boolean fits) {
        if (fits) {
            dueFine(marked.replace("^", ""), functions);
        } else {
            dueFaultAt(7, marked);
        }
    }

    private static void orderOfSixAndSeven() {
        about = "first it itself, then its parts, from left to right";
        dueFaultAt(6, "f : int = ^x + nil;");
        dueFaultAt(7, "f : int = ^nil + x;");
        dueFaultAt(7, "f : list = nil; g : list = x ^+ y;");
        dueFaultAt(7, "f : list = cons ^nil x;");
        dueFaultAt(6, "f : list = cons ^x 1;");
        dueFaultAt(7, "f : int = if ^nil then x else y;");
        dueFaultAt(6, "f : int = if 1 then ^x else nil;");
        dueFaultAt(7, "f : int = let a : int = ^nil in x;");
        dueFaultAt(6, "f : int = let a : int = ^x in nil;");
        dueFaultAt(6, "f : int = case ^x of empty -> nil | h : t -> nil;");
        dueFaultAt(7, "f : int = case nil of empty -> ^nil | h : t -> x;");
        dueFaultAt(6, "f : int = 1 * 2 + (3 - ^x) * nil;");
        about = "FUNCTION by FUNCTION";
        dueFaultAt(7, "f : int = ^nil; g : int = x;");
        dueFaultAt(6, "f : int = ^x; g : int = nil;");
        dueFaultAt(6, functions(39) + "g : int = ^x;");
    }

    private static void countOfCases() {
        about = "8: more than 1000 CASES";
        String two = "int -> int -> int";
        // Products of 2, 3 and 6: 972 is the last up to 1000, 1152 the first behind it (of at most eight).
        String most = "f (a : " + two + ") (b : " + two + ") (c : int -> int) (d : int -> int) (e : int -> int) : int = 1;";
        dueFine(most, 1);
        due("CASES", compiled(most).function(0, 2), 972);
        String eight = "(b : int) (c : int) (d : int) (e : int) (g : int) (h : int) (i : list) : int = 1;";
        dueFine("f (a : " + two + ") " + eight, 1);
        due("CASES", compiled("f (a : " + two + ") " + eight).function(0, 2), 768);
        String over = "(a : " + two + ") (b : " + two + ") (c : int) (d : int) (e : int) (g : int) (h : list) : int = 1;";
        dueFaultAt(8, "^f " + over);
        dueFaultAt(8, "g : int = 1; ^f " + over + " h : int = 1;");
        dueFaultAt(8, "e : int = 1; ^f " + over + " g " + over);
        String six = "(a : " + two + ") (b : " + two + ") (c : " + two + ") (d : " + two + ") ";
        dueFaultAt(8, "^f " + six + ": int = 1;");
        dueFaultAt(8, "^f " + six + six.replace("(", "(z") + ": int = 1;");
        String threes = "(a : int -> int) (b : int -> int) (c : int -> int) (d : int -> int) (e : int -> int) (g : int -> int)";
        dueFine("f " + threes + " : int = 1;", 1);
        due("CASES", compiled("f " + threes + " : int = 1;").function(0, 2), 729);
        dueFaultAt(8, "^f " + threes + " (h : int) : int = 1;");
        dueFaultAt(8, "^f " + threes + " (h : list -> list) : int = 1;");
    }

    private static void orderOfFaults() {
        about = "Then 5 .. then 6, 7 .. then 8";
        String two = "int -> int -> int";
        String over = "(a : " + two + ") (b : " + two + ") (c : " + two + ") (d : " + two + ") : int = ";
        dueFaultAt(2, "f : int = x; f : int = nil; g " + over + "1 ^1;");
        dueFaultAt(5, "f " + over + "x; g : int = nil; ^g : int = 1;");
        dueFaultAt(6, "f " + over + "1; g : int = ^x;");
        dueFaultAt(7, "f " + over + "1; g : int = ^nil;");
        dueFaultAt(8, "^f " + over + "1; g : int = 1;");
    }
}
