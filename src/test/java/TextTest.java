import java.util.Random;

/** Texts grown sign by sign, mostly so that they stay texts, held against Plain's reading. */
public final class TextTest {
    private static final String SIGNS = "rst012345678999!!((())))+-*/%<=>&|pol";
    private static int wrong = 0;

    public static void main(String[] args) {
        Random r = new Random(5);
        int whole = 0;
        for (int run = 0; run < 40000 && wrong < 5; run++) whole += one(r, run);
        if (whole < 8000) {
            wrong++;
            System.out.println("only " + whole + " whole texts were tried");
        }
        if (wrong != 0) System.exit(1);
        System.out.println("TextTest: fine");
    }

    private static int one(Random r, int run) {
        int use = r.nextInt(2);
        String text = grown(r, use, r.nextInt(4) == 0 ? 60 : r.nextInt(25));
        BlinkMoves x = new BlinkMoves();
        for (int i = 0; i < text.length(); i++) x.feed(text.charAt(i), 1);
        int fault = Plain.fault(text, use);
        int got = x.text(use);
        due(text, "text", got, fault < 0 ? 1 : -10 - fault);
        due(text, "count(4)", x.count(4), 0);
        if (fault >= 0) return 0;
        Plain y = new Plain();
        y.texts[use] = text;
        for (int i = 0; i < 6; i++) {
            int a = number(r), b = number(r), c = number(r);
            due(text + " of " + a + " " + b + " " + c, "law", x.law(use, a, b, c), y.law(use, a, b, c));
        }
        return 1;
    }

    private static int number(Random r) {
        int kind = r.nextInt(6);
        if (kind == 0) return r.nextInt();
        if (kind == 1) return r.nextBoolean() ? Integer.MIN_VALUE : Integer.MAX_VALUE;
        return r.nextInt(12) - 3;
    }

    private static String grown(Random r, int use, int most) {
        StringBuilder s = new StringBuilder();
        for (int i = 0; i < most; i++) {
            s.append(SIGNS.charAt(r.nextInt(SIGNS.length())));
            int fault = Plain.fault(s.toString(), use);
            boolean fits = fault < 0 || fault == s.length();
            if (!fits && r.nextInt(60) != 0) s.setLength(s.length() - 1);
            if (r.nextInt(10) == 0 && Plain.fault(s.toString(), use) < 0) break;
        }
        return s.toString();
    }

    private static void due(String text, String what, int got, int want) {
        if (got != want) {
            wrong++;
            System.out.println(what + " of \"" + text + "\" answered " + got + ", due is " + want);
        }
    }
}
