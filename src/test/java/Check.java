import java.util.ArrayList;
import java.util.List;

/** What the tests of bounds share: the sentence that is tested, answers that are due, tables that are laid. */
final class Check {
    static final int BAD = -1, NO = -2, FULL = -3, NONE = -4;
    static final int LOW = Integer.MIN_VALUE, HIGH = Integer.MAX_VALUE;

    private static String sentence = "";
    private static int sentences, answers, wrong;

    private Check() {
    }

    /** All answers up to the next sentence are due by this one. */
    static void sentence(String words) {
        sentence = words;
        sentences++;
    }

    static void due(String what, long got, long want) {
        answers++;
        if (got != want) {
            wrong++;
            System.out.println("\"" + sentence + "\": " + what + " answered " + got + ", due is " + want);
        }
    }

    static void finish() {
        System.out.println(sentences + " sentences, " + answers + " answers, " + wrong + " not as due");
        if (wrong != 0 || answers == 0) {
            System.exit(1);
        }
    }

    /** THE TEXT is this one then. */
    static void write(SaltToLiars x, String text) {
        x.wipe();
        for (int k = 0; k < text.length(); k++) {
            due("write of letter " + k + " of " + text, x.write(text.charAt(k)), k + 1);
        }
    }

    static SaltToLiars written(String text) {
        SaltToLiars x = new SaltToLiars();
        write(x, text);
        return x;
    }

    static SaltToLiars laid(String text) {
        SaltToLiars x = written(text);
        due("lay of " + text, x.lay(), guestsOf(text));
        return x;
    }

    static void faultDue(String text, int want) {
        due("fault of " + text, written(text).fault(), want);
    }

    static int guestsOf(String text) {
        return (int) text.chars().filter(letter -> letter == 'g').count();
    }

    /** Guests of one kind who know all, things that are so by weights 1 to 4. */
    static String alike(int guests, int kind, int law, int salt) {
        return ("g" + kind + ",5,63;").repeat(guests) + "t1,1;t1,2;t1,3;t1,4;l" + law + ";a" + salt + ";";
    }

    /** The first ones beyond either end, the farthest ones, and such as a shift or a narrower type would take for one inside. */
    static int[] outside(int first, int last) {
        List<Integer> all = new ArrayList<>();
        for (long number : new long[] {first - 1L, last + 1L, first - 32L, last + 32L, first - 256L, last + 256L,
            first - 65536L, last + 65536L, LOW, LOW + 1L + first, HIGH, HIGH - 1L}) {
            if ((number < first || number > last) && number == (int) number) {
                all.add((int) number);
            }
        }
        return all.stream().mapToInt(number -> number).toArray();
    }
}
