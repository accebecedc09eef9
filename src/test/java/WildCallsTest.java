import java.util.ArrayList;
import java.util.List;
import java.util.Random;

/**
 * Calls in any order with any numbers: each throws what the document names and nothing else, and a
 * call that throws changes nothing.
 */
public final class WildCallsTest {
    private static final String[] PIECES = {"f", "g", "h", " ", "\n", "(", ")", ":", "=", ";", "->", "|", "+", "-", "*",
        "/", "<", "int", "list", " let ", " in ", " if ", " then ", " else ", " case ", " of ", " empty ", "nil", "cons",
        "error", "0", "1", "2147483647", "f (x : int) : int = ", "g : list = ", "h (f : int -> int) : int = f 1;",
        "x", " x ", "f x", "(f (x - 1))", "f : int = 1;", "k (x : int) : list = cons x (k (x + 1));", "#", "\u00ff"};
    private static int wrong = 0;

    public static void main(String[] args) {
        Random random = new Random(7);
        for (int i = 0; i < 1500; i++) {
            wildRun(random);
        }
        if (wrong > 0) {
            System.exit(1);
        }
    }

    private static int number(Random random) {
        switch (random.nextInt(8)) {
            case 0:
                return random.nextInt();
            case 1:
                return Integer.MIN_VALUE;
            case 2:
                return Integer.MAX_VALUE;
            case 3:
                return 50000 + random.nextInt(2);
            default:
                return random.nextInt(14) - 2;
        }
    }

    private static void wildRun(Random random) {
        LazyStrict x = new LazyStrict();
        boolean whole = random.nextBoolean();
        for (int calls = 0; calls < 60; calls++) {
            int what = random.nextInt(16);
            if (what < 3) {
                feedPiece(x, whole ? PIECES[40 + random.nextInt(2)] : PIECES[random.nextInt(PIECES.length)]);
                continue;
            }
            int a = number(random);
            int b = number(random);
            int c = number(random);
            long octets = random.nextLong();
            boolean quick = random.nextBoolean();
            List<Integer> before = what < 14 ? seen(x) : List.of();
            try {
                call(x, what, new int[] {a, b, c}, octets, quick);
            } catch (RuntimeException e) {
                if (e.getClass() != IllegalArgumentException.class && e.getClass() != IllegalStateException.class
                    && e.getClass() != IndexOutOfBoundsException.class) {
                    wrong++;
                    System.out.println("call " + what + " of " + a + ", " + b + ", " + c + " threw " + e);
                }
                if (what < 14 && !before.equals(seen(x))) {
                    wrong++;
                    System.out.println("call " + what + " of " + a + ", " + b + ", " + c + " threw and changed " + before);
                }
            }
        }
    }

    private static void feedPiece(LazyStrict x, String piece) {
        for (int i = 0; i < piece.length(); i++) {
            x.feed(1, piece.charAt(i));
        }
    }

    private static int call(LazyStrict x, int what, int[] n, long octets, boolean quick) {
        switch (what) {
            case 3:
                return x.feed(n[0] == 1 ? 9 : n[0], octets);
            case 4:
                return x.wipe();
            case 5:
                return x.function(n[0], n[1]);
            case 6:
                return x.parameter(n[0], n[1], n[2]);
            case 7:
                return x.value(n[0], n[1]);
            case 8:
                return x.isStrict(n[0]);
            case 9:
                return x.argument(n[0]);
            case 10:
            case 11:
                return x.run(n[0], n[1], quick);
            case 12:
                return x.told(n[0]);
            case 13:
                return x.element(n[0]);
            default:
                return x.compile();
        }
    }

    private static List<Integer> seen(LazyStrict x) {
        List<Integer> all = new ArrayList<>(List.of(x.place(), x.functions(), x.rounds()));
        for (int i = 0; i < 10; i++) {
            all.add(x.told(i));
        }
        for (int i = 0; i < x.told(6); i++) {
            all.add(x.element(i));
        }
        for (int f = 0; f < x.functions(); f++) {
            for (int what = 0; what < 7; what++) {
                all.add(x.function(f, what));
            }
        }
        return all;
    }
}
