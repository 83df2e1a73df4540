/** The promises one by one, with answers worked out by hand from the document. */
public final class PromiseTest {
    private static final int BAD = -1, NO = -2, FULL = -3, NONE = -4;
    private static final int LOW = Integer.MIN_VALUE, HIGH = Integer.MAX_VALUE;
    private static int wrong = 0;

    private static void due(int promise, String what, long got, long want) {
        if (got != want) {
            wrong++;
            System.out.println("promise " + promise + ": " + what + " answered " + got + ", due is " + want);
        }
    }

    private static void writeAll(SaltToLiars x, String text) {
        x.wipe();
        for (int k = 0; k < text.length(); k++) {
            x.write(text.charAt(k));
        }
    }

    private static SaltToLiars laid(String text) {
        SaltToLiars x = new SaltToLiars();
        writeAll(x, text);
        if (x.lay() < 3) {
            wrong++;
            System.out.println("promise 5: not laid: " + text);
        }
        return x;
    }

    /** Eight PLAIN ones who know all, THINGS that are so by weights 1 to 4, the salt at 0. */
    private static SaltToLiars plainEight(int law) {
        return laid("g0,5,63;".repeat(8) + "t1,1;t1,2;t1,3;t1,4;l" + law + ";a0;");
    }

    public static void main(String[] args) {
        newObject();
        writing();
        wiping();
        faults();
        laying();
        layingForgets();
        guests();
        things();
        weights();
        sayingByLaw();
        sayingToDeaf();
        sayingBad();
        sayingBoth();
        hushing();
        undoing();
        undoneAndWent();
        wentRounds();
        fitting();
        sureThings();
        lawsThatCanBe();
        asking();
        fewestUntruths();
        stories();
        resting();
        telling();
        forgetting();
        believing();
        trails();
        dinners();
        keeping();
        goingBack();
        counting();
        System.out.println(wrong == 0 ? "all promises are kept" : wrong + " answers are not as due");
        if (wrong != 0) {
            System.exit(1);
        }
    }

    private static void newObject() {
        SaltToLiars x = new SaltToLiars();
        int[] counts = {5, 4, 0, 2, 0, 0, 0, 0, 0, 0};
        for (int k = 0; k < counts.length; k++) {
            due(1, "count " + k, x.count(k), counts[k]);
        }
        int[][] guests = {{0, 7, 3, 0, 2}, {1, 9, 0, 0, 1}, {2, 10, 5, 0, 0}, {3, 5, 15, 0, 1}, {4, 8, 9, 0, 2}};
        for (int i = 0; i < 5; i++) {
            for (int what = 0; what < 5; what++) {
                due(1, "guest " + i + " " + what, x.guest(i, what), guests[i][what]);
            }
        }
        int[][] things = {{1, 2}, {0, 1}, {1, 3}, {0, 4}};
        for (int t = 0; t < 4; t++) {
            due(1, "thing so " + t, x.thing(t, 0), things[t][0]);
            due(1, "thing weight " + t, x.thing(t, 1), things[t][1]);
        }
        due(1, "trail", x.trail(), 4);
        due(1, "wipe", x.wipe(), 0);
        due(1, "BAD", SaltToLiars.BAD, BAD);
        due(1, "NO", SaltToLiars.NO, NO);
        due(1, "FULL", SaltToLiars.FULL, FULL);
        due(1, "NONE", SaltToLiars.NONE, NONE);
    }

    private static void writing() {
        SaltToLiars x = new SaltToLiars();
        for (int letter : new int[] {31, 127, 0, -1, 10, 128, 65536 + 65, LOW, HIGH}) {
            due(2, "write " + letter, x.write(letter), BAD);
        }
        due(2, "write 32", x.write(32), 1);
        due(2, "write 126", x.write(126), 2);
        for (int k = 3; k <= 200; k++) {
            due(2, "write the " + k + "th", x.write('g'), k);
        }
        due(2, "write the 201st", x.write('g'), FULL);
        due(2, "write a bad 201st", x.write(31), BAD);
        due(2, "length", x.count(9), 200);
    }

    private static void wiping() {
        SaltToLiars x = new SaltToLiars();
        due(3, "wipe", x.wipe(), 0);
        writeAll(x, "abc");
        due(3, "wipe", x.wipe(), 3);
        due(3, "wipe again", x.wipe(), 0);
        due(3, "length", x.count(9), 0);
        due(3, "write", x.write('g'), 1);
        due(3, "guests stay", x.count(0), 5);
    }

    private static void faultOf(String text, int want) {
        SaltToLiars x = new SaltToLiars();
        writeAll(x, text);
        due(4, "fault of " + text, x.fault(), want);
        due(4, "fault again of " + text, x.fault(), want);
        due(4, "length of " + text, x.count(9), text.length());
        due(4, "guests behind " + text, x.count(0), 5);
    }

    private static void faults() {
        faultOf("", NONE);
        faultOf("g0,0,0;g4,10,63;t0,1;t1,4;l0;l3;a0;a7;", NONE);
        faultOf("g04,07,03;t01,02;l03;a07;", NONE);
        faultOf("g00,00,00;", NONE);
        for (String item : new String[] {"g5,0,0;", "g10,0,0;", "g0,11,0;", "g0,0,64;", "g0,0,99;", "g0,0;", "g0;",
            "g;", "g", "g0,0,0,0;", "g0,0,0", "g0,0,", "g0,0,0,", "g0,0,000;", "g000,0,0;", "g,0,0;", "g0,,0;", "g0;0,0;",
            "g 0,0,0;", "g0,0,0 ;", "g-1,0,0;", "G0,0,0;", "t2,1;", "t0,0;", "t0,5;", "t0;", "t0,1,1;", "t0,10;",
            "t10,1;", "t0,1", "l4;", "l10;", "l;", "l0,0;", "l0", "a8;", "a10;", "a;", "a0,0;", "a7", "x0;", ";", ",",
            "0;", " ", "0"}) {
            faultOf(item, 0);
            faultOf("l0;" + item, 3);
            faultOf("g0,10,63;" + item + "t0,1;", 9);
            faultOf(item + item, 0);
        }
        faultOf("l0; l0;", 3);
        faultOf("l0;;", 3);
        faultOf("g0,0,0;".repeat(8), NONE);
        faultOf("g0,0,0;".repeat(9), 56);
        faultOf("g0,0,0;".repeat(8) + "l0;g0,0,0;x", 59);
        faultOf("t0,1;".repeat(6), NONE);
        faultOf("t0,1;".repeat(7), 30);
        faultOf("l0;".repeat(66), NONE);
        faultOf("l0;".repeat(66) + "l0", 198);
        faultOf("l0;".repeat(60) + "l4;" + "l5;", 180);
    }

    private static void laidIs(String text, int want) {
        SaltToLiars x = new SaltToLiars();
        x.hush();
        x.tell(0, true);
        x.keep();
        writeAll(x, text);
        due(5, "lay " + text, x.lay(), want);
        due(5, "letters behind lay " + text, x.count(9), text.length());
        if (want == NO) {
            int[] counts = {5, 4, 0, 1, 1, 0, 1, 1, 1};
            for (int k = 0; k < counts.length; k++) {
                due(5, "count " + k + " behind no lay " + text, x.count(k), counts[k]);
            }
            due(5, "guest behind no lay " + text, x.guest(4, 2), 9);
            due(5, "thing behind no lay " + text, x.thing(3, 1), 4);
        }
    }

    private static void laying() {
        laidIs("g0,0,0;g0,0,0;g0,0,0;t0,1;", 3);
        laidIs("t0,1;g0,0,0;a2;g0,0,0;l3;g0,0,0;", 3);
        laidIs("g0,0,0;".repeat(8) + "t0,1;".repeat(6) + "l3;a7;", 8);
        laidIs("", NO);
        laidIs("g0,0,0;g0,0,0;t0,1;", NO);
        laidIs("g0,0,0;g0,0,0;g0,0,0;", NO);
        laidIs("g0,0,0;g0,0,0;g0,0,0;t0,1;a3;", NO);
        laidIs("a7;a2;g0,0,0;g0,0,0;g0,0,0;t0,1;", 3);
        laidIs("a2;a7;g0,0,0;g0,0,0;g0,0,0;t0,1;", NO);
        laidIs("g0,0,0;g0,0,0;g0,0,0;t0,1;x", NO);
        laidIs("g0,0,0;g0,0,0;g0,0,0;t0,1;l0", NO);
        laidIs("g4,1,2;g4,1,2;g4,1,2;t1,3;a1;l9;", NO);
    }

    private static void layingForgets() {
        SaltToLiars x = new SaltToLiars();
        x.say(3, 1, true);
        x.tell(0, true);
        x.keep();
        writeAll(x, "g4,1,40;g3,2,7;g2,3,5;g1,10,1;t0,4;t1,3;l1;l2;a1;a3;");
        due(5, "lay", x.lay(), 4);
        int[] counts = {4, 2, 2, 3, 0, 0, 0, 0, 0, 52};
        for (int k = 0; k < counts.length; k++) {
            due(5, "count " + k, x.count(k), counts[k]);
        }
        due(5, "guest 0 kind", x.guest(0, 0), 4);
        due(5, "guest 0 honest", x.guest(0, 1), 1);
        due(5, "guest 0 knows", x.guest(0, 2), 40);
        due(5, "guest 3 lied", x.guest(3, 3), 0);
        due(5, "thing 1", x.thing(1, 0), 1);
        due(5, "thing 0", x.thing(0, 1), 4);
        due(5, "no thing 2", x.thing(2, 1), BAD);
        due(5, "trail", x.trail(), 8);
        due(5, "undo", x.undo(), NO);
        due(5, "back", x.back(), NO);
        due(5, "went", x.went(0, 0), BAD);
        due(5, "believe", x.believe(1), 2);
        due(5, "lay again", x.lay(), 4);
        writeAll(x, "g0,0,0;g0,0,0;g0,0,0;t0,1;");
        due(5, "lay without l, a", x.lay(), 3);
        due(5, "law without l", x.count(2), 0);
        due(5, "salt without a", x.count(3), 0);
    }

    private static void guests() {
        SaltToLiars x = plainEight(0);
        int[] far = {0, 1, 2, 3, 4, 3, 2, 1};
        for (int i = 0; i < 8; i++) {
            due(6, "far " + i, x.guest(i, 4), far[i]);
        }
        for (int wrongOne : new int[] {-1, 8, LOW, HIGH}) {
            due(6, "guest " + wrongOne, x.guest(wrongOne, 0), BAD);
        }
        for (int what : new int[] {-1, 5, LOW, HIGH}) {
            due(6, "guest what " + what, x.guest(0, what), BAD);
        }
        x.say(6, 3, false);
        x.say(6, 0, false);
        x.say(6, 0, true);
        due(6, "lied", x.guest(6, 3), 2);
        due(6, "lied not", x.guest(5, 3), 0);
        due(6, "far behind it", x.guest(2, 4), 4);
        due(6, "bits beyond the things", x.guest(0, 2), 63);
        SaltToLiars y = new SaltToLiars();
        y.say(2, 1, true);
        y.say(4, 1, true);
        due(6, "lied by a child, not counting", y.guest(2, 3), 1);
        due(6, "lied by a friend, not counting", y.guest(4, 3), 1);
    }

    private static void things() {
        SaltToLiars x = new SaltToLiars();
        for (int t : new int[] {-1, 4, 5, LOW, HIGH}) {
            due(7, "thing " + t, x.thing(t, 0), BAD);
        }
        for (int what : new int[] {-1, 2, LOW, HIGH}) {
            due(7, "thing what " + what, x.thing(0, what), BAD);
        }
        due(7, "so", x.thing(2, 0), 1);
        due(7, "not so", x.thing(3, 0), 0);
        due(7, "weight", x.thing(2, 1), 3);
    }

    private static void weights() {
        SaltToLiars x = laid("g0,5,0;g1,5,0;g2,5,0;g3,5,0;g4,5,0;t1,1;t0,2;t1,3;t0,4;");
        int[][] want = {{1, 2, 3, 4}, {1, 2, 3, 4}, {0, 1, 2, 3}, {2, 4, 6, 8}, {0, 2, 3, 4}};
        for (int i = 0; i < 5; i++) {
            for (int t = 0; t < 4; t++) {
                due(8, "weight " + i + " " + t, x.weight(i, t), want[i][t]);
            }
        }
        due(8, "no guest", x.weight(5, 0), BAD);
        due(8, "no guest", x.weight(-1, 0), BAD);
        due(8, "no thing", x.weight(0, 4), BAD);
        due(8, "no thing", x.weight(0, -1), BAD);
        due(8, "neither", x.weight(HIGH, LOW), BAD);
    }

    /** The first untruth from seat 0 among eight, by the law. */
    private static void firstLie(int law, int i, int t, int want) {
        SaltToLiars x = plainEight(law);
        due(9, "law " + law + ": lie of " + i + " by " + (t + 1), x.say(i, t, false), want);
        due(9, "count", x.count(3), want);
    }

    private static void sayingByLaw() {
        firstLie(0, 4, 2, 3);
        firstLie(0, 4, 3, 4);
        firstLie(0, 5, 1, 6);
        firstLie(0, 5, 2, 5);
        firstLie(0, 5, 3, 5);
        firstLie(0, 3, 0, 1);
        firstLie(1, 5, 1, 2);
        firstLie(1, 7, 3, 4);
        firstLie(1, 2, 3, 2);
        firstLie(2, 4, 3, 1);
        firstLie(2, 5, 3, 7);
        firstLie(2, 3, 0, 1);
        firstLie(2, 7, 3, 7);
        firstLie(3, 2, 3, 5);
        firstLie(3, 2, 0, 2);
        firstLie(3, 4, 1, 3);
        firstLie(3, 4, 3, 5);
        firstLie(3, 6, 2, 4);
        firstLie(3, 5, 0, 6);
        firstLie(3, 7, 3, 3);
        for (int law = 0; law < 4; law++) {
            firstLie(law, 0, 3, 0);
            SaltToLiars x = plainEight(law);
            due(9, "no untruth and nobody deaf", x.say(3, 2, true), 0);
            due(9, "a round", x.count(4), 1);
        }
        SaltToLiars small = laid("g0,0,0;g0,0,0;g3,0,0;t0,4;l3;a0;");
        due(9, "nine steps down among three", small.say(2, 0, true), 0);
        SaltToLiars eight = laid("g0,0,0;g3,0,0;" + "g0,0,0;".repeat(6) + "t0,4;l3;a0;");
        due(9, "nine steps up among eight", eight.say(1, 0, true), 1);
    }

    private static void sayingToDeaf() {
        SaltToLiars x = laid("g0,5,0;g2,5,0;g1,5,0;g4,5,0;g0,5,0;g0,5,0;g1,5,0;g0,5,0;t1,1;t0,2;a0;");
        due(9, "both deaf ones 2 off, to the lowest", x.say(0, 0, true), 1);
        due(9, "a child's lie that does not count", x.say(1, 0, false), 2);
        due(9, "at the deaf one", x.say(3, 0, false), 2);
        due(9, "the deaf one speaks, to the other one 4 off, up", x.say(2, 0, true), 3);
        due(9, "the deaf one lies", x.say(2, 1, true), 2);
        due(9, "the deaf one lies at his seat", x.say(2, 0, false), 2);
        due(9, "untruths", x.count(5), 4);
        SaltToLiars down = laid("g0,5,0;g0,5,0;g0,5,0;g1,5,0;g1,5,0;t1,1;a0;l1;");
        due(9, "down to the nearest one by any law", down.say(1, 0, true), 4);
        SaltToLiars alone = new SaltToLiars();
        due(9, "the only deaf one speaks", alone.say(1, 0, true), 2);
    }

    private static void sayingBad() {
        SaltToLiars x = new SaltToLiars();
        for (int i : new int[] {-1, 5, LOW, HIGH}) {
            due(9, "say of guest " + i, x.say(i, 0, true), BAD);
        }
        for (int t : new int[] {-1, 4, LOW, HIGH}) {
            due(9, "say of thing " + t, x.say(0, t, true), BAD);
        }
        due(9, "no round", x.count(4), 0);
        due(9, "no salt moved", x.count(3), 2);
        due(9, "unknown things can be said", x.say(1, 0, false), 1);
    }

    private static void sayingBoth() {
        due(10, "counts more by 2", plainEight(0).sayBoth(4, 3, false, 6, 1, false), 2);
        due(10, "the other one counts more by 2", plainEight(0).sayBoth(4, 0, false, 6, 2, false), 6);
        due(10, "the other one by 1", plainEight(0).sayBoth(4, 0, false, 6, 1, false), 7);
        due(10, "alike", plainEight(0).sayBoth(4, 2, false, 6, 2, false), 0);
        due(10, "one of them lies", plainEight(0).sayBoth(4, 2, true, 3, 1, false), 2);
        due(10, "one is at his seat", plainEight(0).sayBoth(0, 2, false, 3, 1, false), 0);
        due(10, "past by the difference and one", plainEight(3).sayBoth(2, 3, false, 6, 1, false), 3);
        due(10, "round by the difference", plainEight(1).sayBoth(7, 3, false, 2, 0, false), 3);
        due(10, "one by one", plainEight(2).sayBoth(5, 3, false, 2, 0, false), 7);
        SaltToLiars x = laid("g1,5,0;g0,5,0;g0,5,0;g1,5,0;g4,5,0;t1,1;t0,2;a1;");
        due(10, "alike, nobody deaf counts", x.sayBoth(1, 1, true, 2, 1, true), 1);
        due(10, "both true, to the deaf one who is silent", x.sayBoth(0, 0, true, 1, 0, true), 2);
        due(10, "both deaf ones speak", x.sayBoth(0, 0, true, 3, 0, true), 2);
        due(10, "a friend's that does not count", x.sayBoth(4, 0, false, 1, 0, true), 3);
        due(10, "a friend's that does not count and one that does", x.sayBoth(4, 0, false, 1, 1, true), 1);
        due(10, "untruths", x.count(5), 5);
        due(10, "lied", x.guest(4, 3), 2);
        due(10, "rounds", x.count(4), 5);
        due(10, "alike guests", x.sayBoth(1, 0, true, 1, 1, true), BAD);
        int[] no = {-1, 5, LOW, HIGH};
        for (int k : no) {
            due(10, "guest i " + k, x.sayBoth(k, 0, true, 1, 0, true), BAD);
            due(10, "guest j " + k, x.sayBoth(1, 0, true, k, 0, true), BAD);
            due(10, "thing t " + k, x.sayBoth(0, k, true, 1, 0, true), BAD);
            due(10, "thing u " + k, x.sayBoth(0, 0, true, 1, k, true), BAD);
        }
        due(10, "thing 2", x.sayBoth(0, 0, true, 1, 2, true), BAD);
        due(10, "rounds stay", x.count(4), 5);
    }

    private static void hushing() {
        SaltToLiars x = new SaltToLiars();
        due(11, "hush", x.hush(), 1);
        due(11, "hush there", x.hush(), 1);
        due(11, "rounds", x.count(4), 2);
        due(11, "spoke", x.went(0, 2), 0);
        due(11, "nobody deaf", plainEight(0).hush(), 0);
        due(11, "tie up", laid("g0,0,0;g0,0,0;g1,0,0;g0,0,0;t0,1;").hush(), 1);
    }

    private static void undoing() {
        SaltToLiars x = new SaltToLiars();
        due(12, "undo nothing", x.undo(), NO);
        x.say(3, 1, true);
        x.sayBoth(0, 0, false, 3, 0, false);
        x.say(0, 3, true);
        due(12, "salt", x.count(3), 0);
        due(12, "undo", x.undo(), 2);
        due(12, "salt back", x.count(3), 3);
        due(12, "lied back", x.guest(0, 3), 1);
        due(12, "untruths back", x.count(5), 3);
        due(12, "trail back", x.trail(), 12);
        due(12, "undo both", x.undo(), 1);
        due(12, "lied back of both", x.guest(0, 3), 0);
        due(12, "lied back of the other", x.guest(3, 3), 1);
        due(12, "undo the first", x.undo(), 0);
        due(12, "trail of none", x.trail(), 4);
        due(12, "rounds", x.count(4), 0);
        due(12, "no more", x.undo(), NO);
        for (int k = 1; k <= 12; k++) {
            x.hush();
            due(12, "can be undone", x.count(7), Math.min(k, 8));
        }
        for (int k = 7; k >= 3; k--) {
            due(12, "undo of many", x.undo(), k);
        }
        x.hush();
        due(12, "one more can be", x.count(7), 4);
        x.tell(0, true);
        x.undo();
        due(12, "told stays", x.count(6), 1);
        due(12, "went of the ones left", x.went(6, 0), 2);
        due(12, "rounds left", x.count(4), 7);
        due(12, "undo", x.undo(), 2);
        x.undo();
        x.undo();
        due(12, "none is left to undo", x.undo(), NO);
        due(12, "but rounds are", x.count(4), 4);
    }

    private static void undoneAndWent() {
        SaltToLiars x = plainEight(2);
        for (int k = 0; k < 20; k++) {
            x.say((k + 1) % 8, 0, false);
        }
        due(13, "latest of 20", x.went(0, 1), 4);
        due(13, "tenth of 20", x.went(9, 0), 2);
        for (int k = 0; k < 8; k++) {
            x.undo();
        }
        due(13, "latest of 12", x.went(0, 1), 4);
        due(13, "tenth of 12", x.went(9, 0), 2);
        due(13, "tenth of 12 to", x.went(9, 1), 3);
        due(13, "eleventh", x.went(10, 0), BAD);
        due(13, "its laws", x.laws(), 7);
    }

    private static void wentRounds() {
        SaltToLiars x = plainEight(0);
        due(13, "nothing went", x.went(0, 0), BAD);
        x.say(3, 1, false);
        x.sayBoth(3, 0, false, 4, 0, true);
        x.hush();
        int[][] want = {{3, 3, 0}, {2, 3, 2}, {0, 2, 1}};
        for (int k = 0; k < 3; k++) {
            for (int what = 0; what < 3; what++) {
                due(13, "went " + k + " " + what, x.went(k, what), want[k][what]);
            }
        }
        for (int k : new int[] {-1, 3, LOW, HIGH}) {
            due(13, "went " + k, x.went(k, 0), BAD);
        }
        for (int what : new int[] {-1, 3, LOW, HIGH}) {
            due(13, "went what " + what, x.went(0, what), BAD);
        }
        for (int k = 0; k < 9; k++) {
            x.hush();
        }
        due(13, "went 9", x.went(9, 2), 0);
        due(13, "went 10", x.went(10, 2), BAD);
    }

    private static void fitting() {
        SaltToLiars x = plainEight(0);
        due(14, "all", x.fits(0), 16);
        due(14, "lowest of all", x.fits(1), 0);
        x.say(3, 2, false);
        due(14, "a lie tells it", x.fits(0), 8);
        due(14, "lowest", x.fits(1), 4);
        x.say(3, 0, false);
        due(14, "nothing by a lie at his seat", x.fits(0), 8);
        x.say(6, 1, true);
        due(14, "truth tells it", x.fits(0), 4);
        due(14, "lowest by both", x.fits(1), 6);
        x.sayBoth(7, 3, false, 2, 0, false);
        due(14, "two at once tell it", x.fits(0), 1);
        due(14, "the way it is", x.fits(1), 15);
        x.undo();
        due(14, "undone", x.fits(0), 4);
        for (int k = 0; k < 9; k++) {
            x.hush();
        }
        due(14, "only the last ten", x.fits(0), 8);
        due(14, "lowest by the last ten", x.fits(1), 2);
        x.hush();
        due(14, "all forgotten", x.fits(0), 16);
        for (int what : new int[] {-1, 2, LOW, HIGH}) {
            due(14, "fits " + what, x.fits(what), BAD);
        }
    }

    private static void sureThings() {
        SaltToLiars x = new SaltToLiars();
        due(15, "so at first", x.sure(true), 0);
        due(15, "not so at first", x.sure(false), 0);
        x.say(3, 1, true);
        due(15, "not so", x.sure(false), 2);
        due(15, "so none", x.sure(true), 0);
        x.say(0, 0, false);
        due(15, "so", x.sure(true), 1);
        due(15, "not so still", x.sure(false), 2);
    }

    private static void lawsThatCanBe() {
        SaltToLiars x = plainEight(0);
        due(16, "all", x.laws(), 15);
        x.say(0, 3, false);
        due(16, "all by one at his seat", x.laws(), 15);
        x.say(3, 0, false);
        due(16, "1 step up: nearer, round, one", x.laws(), 7);
        x.say(5, 1, false);
        due(16, "2 steps up: nearer, round", x.laws(), 3);
        x.say(0, 0, false);
        due(16, "1 step down: nearer", x.laws(), 1);
        for (int k = 0; k < 9; k++) {
            x.hush();
        }
        due(16, "by the last ten", x.laws(), 5);
        SaltToLiars past = plainEight(3);
        past.say(4, 0, false);
        due(16, "2 steps by 1", past.laws(), 8);
    }

    private static void asking() {
        SaltToLiars x = plainEight(0);
        due(17, "guest 0 tells nothing at his seat", x.ask(0), 8);
        due(17, "how many", x.ask(1), 8);
        x.say(1, 0, true);
        due(17, "another thing", x.ask(0), 9);
        due(17, "how many then", x.ask(1), 4);
        x.say(1, 1, true);
        x.say(1, 2, true);
        x.say(1, 3, true);
        due(17, "all is known", x.ask(0), 0);
        due(17, "one", x.ask(1), 1);
        SaltToLiars two = laid("g4,0,0;g4,0,0;g2,0,0;t0,1;t1,1;a0;");
        due(17, "nothing counts", two.ask(0), 0);
        due(17, "all alike", two.ask(1), 4);
        SaltToLiars deaf = laid("g0,0,0;g1,0,0;g0,0,0;t1,1;t1,1;a0;");
        due(17, "the lie of 1 goes where the truth of 0 would: his own moves nothing", deaf.ask(0), 0);
        due(17, "two of four", deaf.ask(1), 2);
        for (int what : new int[] {-1, 2, LOW, HIGH}) {
            due(17, "ask " + what, x.ask(what), BAD);
        }
        due(17, "no round by it", x.count(4), 4);
    }

    private static void fewestUntruths() {
        SaltToLiars x = laid("g0,5,1;g0,5,0;g3,5,2;g0,5,0;g0,5,0;g2,5,4;t1,3;t0,1;t1,2;a0;");
        due(18, "here in none", x.fewest(0, 0), 0);
        due(18, "elsewhere in none", x.fewest(1, 0), NONE);
        due(18, "here by truths", x.fewest(0, 6), 0);
        due(18, "to 2 by the bishop's 1", x.fewest(2, 1), 2);
        due(18, "to 5 by the child's 2", x.fewest(5, 1), 1);
        due(18, "to 4 not at all in one", x.fewest(4, 1), NONE);
        due(18, "to 1 in one", x.fewest(1, 1), NONE);
        due(18, "to 3 by the bishop, then the child, up", x.fewest(3, 2), 3);
        due(18, "to 1 by the child, then the bishop", x.fewest(1, 2), 3);
        due(18, "nothing changes", x.count(4), 0);
        for (int seat : new int[] {-1, 6, LOW, HIGH}) {
            due(18, "seat " + seat, x.fewest(seat, 1), BAD);
        }
        for (int n : new int[] {-1, 7, LOW, HIGH}) {
            due(18, "n " + n, x.fewest(0, n), BAD);
        }
        SaltToLiars deaf = laid("g0,5,0;g1,5,1;g0,5,0;g0,5,0;t1,1;a3;");
        due(18, "by silence toward the deaf one, the tie up", deaf.fewest(0, 1), 0);
        due(18, "it stays, if the deaf one speaks so", deaf.fewest(3, 5), 0);
        due(18, "to the deaf one", deaf.fewest(1, 2), 0);
        due(18, "never to 2", deaf.fewest(2, 6), NONE);
        SaltToLiars beyond = laid("g0,5,62;g0,5,62;g0,5,62;t1,1;");
        due(18, "bits of things that there are not", beyond.fewest(1, 6), NONE);
        SaltToLiars ones = laid("g0,5,0;g0,5,0;g0,5,0;g3,5,1;g0,5,0;g0,5,0;g0,5,0;t1,4;l2;a0;");
        due(18, "three steps of 8 each", ones.fewest(3, 3), 24);
        due(18, "three in six", ones.fewest(3, 6), 24);
        due(18, "not in two", ones.fewest(3, 2), NONE);
    }

    private static void stories() {
        SaltToLiars x = new SaltToLiars();
        due(19, "nobody", x.story(0, 0), 0);
        due(19, "nobody knows", x.story(0, 1), 2);
        due(19, "0 and 2", x.story(5, 0), 7);
        due(19, "0 and 2 do not know 3", x.story(5, 1), 1);
        due(19, "4", x.story(16, 0), 9);
        due(19, "4 does not know 1", x.story(16, 1), 1);
        due(19, "3 knows all", x.story(8, 1), 0);
        due(19, "all", x.story(31, 0), 15);
        for (int set : new int[] {-1, 32, LOW, HIGH}) {
            due(19, "set " + set, x.story(set, 0), BAD);
        }
        for (int what : new int[] {-1, 2, LOW, HIGH}) {
            due(19, "what " + what, x.story(0, what), BAD);
        }
        due(19, "only such as there are", plainEight(0).story(255, 0), 15);
        due(19, "none is not so", plainEight(0).story(0, 1), 0);
    }

    private static void restsAre(SaltToLiars x, int[] call, int many, int first) {
        String told = call[0] + " " + call[1] + " " + call[2] + " " + call[3];
        due(20, "rests " + told, x.rests(call[0], call[1], call[2], call[3], 0), many);
        due(20, "first rest " + told, x.rests(call[0], call[1], call[2], call[3], 1), first);
    }

    private static void resting() {
        SaltToLiars x = plainEight(0);
        // both 4 off and more than that can't be had: neither gains by lying
        restsAre(x, new int[] {4, 0, 5, 0}, 1, 3);
        // each would have it alone by 1, and neither if both do
        restsAre(x, new int[] {1, 0, 7, 0}, 2, 1);
        // the first one's counts more by 1: he has it for 2 anyhow, the other one then pays for nothing
        restsAre(x, new int[] {1, 1, 7, 0}, 1, 1);
        restsAre(x, new int[] {7, 0, 1, 1}, 1, 2);
        // who has it keeps it, if the other one would pay 1 for nothing
        restsAre(x, new int[] {0, 0, 4, 0}, 1, 3);
        // the other one would have it alone; then the one who has it answers by 1; then the other one stops; then he does
        restsAre(x, new int[] {0, 0, 1, 0}, 0, NONE);
        // a friend's that does not count costs nothing and moves nothing: both ways of his are alike
        SaltToLiars free = laid("g4,0,0;g4,0,0;g4,0,0;t1,1;a2;");
        restsAre(free, new int[] {0, 0, 1, 0}, 4, 0);
        // the bishop's 4 brings it for 1 in all, the plain one's 2 less than that nothing
        restsAre(laid("g0,0,0;g0,0,0;g3,0,0;g0,0,0;t1,2;a0;"), new int[] {2, 0, 1, 0}, 1, 1);
        // to a deaf one who says nothing the salt comes for nothing, so that only the other one lies
        restsAre(laid("g1,0,0;g0,0,0;g0,0,0;g0,0,0;t1,1;a1;"), new int[] {0, 0, 2, 0}, 1, 2);
        due(20, "alike", x.rests(1, 0, 1, 1, 0), BAD);
        for (int k : new int[] {-1, 8, LOW, HIGH}) {
            due(20, "i " + k, x.rests(k, 0, 1, 0, 0), BAD);
            due(20, "s " + k, x.rests(0, k, 1, 0, 0), BAD);
            due(20, "j " + k, x.rests(0, 0, k, 0, 0), BAD);
            due(20, "t " + k, x.rests(0, 0, 1, k, 0), BAD);
            due(20, "what " + k, x.rests(0, 0, 1, 0, k), BAD);
        }
        due(20, "s 4", x.rests(0, 4, 1, 0, 0), BAD);
        due(20, "what 2", x.rests(0, 0, 1, 0, 2), BAD);
        due(20, "nothing changes", x.count(4), 0);
    }

    private static void telling() {
        SaltToLiars x = new SaltToLiars();
        for (int i : new int[] {-1, 5, LOW, HIGH}) {
            due(21, "tell " + i, x.tell(i, true), BAD);
        }
        for (int k = 1; k <= 8; k++) {
            due(21, "tell the " + k + "th", x.tell(k % 5, true), k);
        }
        due(21, "tell the 9th", x.tell(0, true), FULL);
        due(21, "bad ahead of full", x.tell(5, true), BAD);
        due(21, "told", x.count(6), 8);
    }

    private static void forgetting() {
        SaltToLiars x = new SaltToLiars();
        due(22, "forget nothing", x.forget(), 0);
        x.tell(0, true);
        x.tell(0, false);
        due(22, "forget", x.forget(), 2);
        due(22, "told", x.count(6), 0);
        due(22, "believe", x.believe(1), 2);
        due(22, "tell anew", x.tell(3, true), 1);
    }

    private static void believed(SaltToLiars x, long above, long below) {
        due(23, "above", x.believe(0), above);
        due(23, "below", x.believe(1), below);
        due(23, "part 2", x.believe(2), BAD);
        due(23, "part -1", x.believe(-1), BAD);
        due(23, "part low", x.believe(LOW), BAD);
    }

    private static void believing() {
        SaltToLiars x = new SaltToLiars();
        believed(x, 1, 2);
        x.tell(0, true);
        believed(x, 7, 10);
        x.tell(4, true);
        believed(x, 28, 31);
        x.tell(1, false);
        believed(x, 28, 55);
        x.tell(3, true);
        believed(x, 28, 55);
        x.tell(2, false);
        believed(x, 0, 1);
        x.tell(2, true);
        believed(x, NONE, NONE);
        x.forget();
        x.tell(2, true);
        believed(x, 1, 1);
        x.forget();
        for (int k = 0; k < 8; k++) {
            x.tell(1, true);
        }
        believed(x, 43046721, 43046722);
        SaltToLiars y = laid("g0,0,0;g0,10,0;g0,7,0;t0,1;");
        y.tell(0, true);
        believed(y, 0, 1);
        y.tell(1, false);
        believed(y, 0, 1);
        y.forget();
        y.tell(0, false);
        believed(y, 1, 1);
        y.forget();
        for (int k = 0; k < 8; k++) {
            y.tell(2, false);
        }
        believed(y, 6561, 6561 + 5764801);
    }

    private static void trails() {
        SaltToLiars x = plainEight(0);
        due(24, "at first", x.trail(), 1);
        x.say(4, 2, false);
        due(24, "ends alone count", x.trail(), 9);
        x.say(7, 3, false);
        due(24, "one more", x.trail(), 137);
        x.undo();
        due(24, "undone", x.trail(), 9);
        for (int k = 0; k < 12; k++) {
            x.hush();
        }
        due(24, "long ago, too", x.trail(), 9);
    }

    private static void dinners() {
        // z 0, k 0: x is 1, DRAW 0; k 1: x is 6152, 6152 times 6152 modulo 65521 is 41487, DRAW 5185
        SaltToLiars x = new SaltToLiars();
        due(25, "guest 0 tells the truth of thing 0", x.dinner(0, 1, 0), 1);
        due(25, "no untruth", x.dinner(0, 1, 1), 0);
        // DRAW 5185: guest 0, thing 648 modulo 4 = 0, 81 modulo 10 = 1 < 7
        due(25, "in two rounds", x.dinner(0, 2, 0), 1);
        due(25, "nothing changes", x.count(4), 0);
        due(25, "salt stays", x.count(3), 2);
        due(25, "trail stays", x.trail(), 4);
        SaltToLiars liars = laid("g0,0,0;g0,0,0;g0,0,0;t1,1;l2;a2;");
        due(25, "all lie", liars.dinner(123, 60, 1), 60);
        due(25, "guest 0 lies", liars.dinner(0, 1, 0), 0);
        SaltToLiars friends = laid("g4,0,0;g4,0,0;g4,0,0;t1,1;l2;a2;");
        due(25, "untruths that do not count", friends.dinner(123, 60, 1), 60);
        due(25, "salt stays by these", friends.dinner(123, 60, 0), 2);
        // here the salt goes to whoever spoke last: x is 2497 modulo 65521 for k 59, 6151 less for each one ahead
        SaltToLiars last = laid("g0,0,0;g0,0,0;g0,0,0;t1,4;");
        due(25, "DRAW 1314", last.dinner(9999, 60, 0), 0);
        due(25, "DRAW 6369", last.dinner(9999, 59, 0), 0);
        due(25, "DRAW 2339", last.dinner(9999, 58, 0), 2);
        due(25, "none lies", laid("g0,10,0;g0,10,0;g0,10,0;t1,1;").dinner(123, 60, 1), 0);
        for (int z : new int[] {-1, 10000, LOW, HIGH}) {
            due(25, "z " + z, x.dinner(z, 1, 0), BAD);
        }
        for (int n : new int[] {-1, 0, 61, LOW, HIGH}) {
            due(25, "n " + n, x.dinner(0, n, 0), BAD);
        }
        for (int what : new int[] {-1, 2, LOW, HIGH}) {
            due(25, "what " + what, x.dinner(0, 1, what), BAD);
        }
    }

    private static void keeping() {
        SaltToLiars x = new SaltToLiars();
        due(26, "keep", x.keep(), 1);
        due(26, "keep", x.keep(), 2);
        due(26, "keep", x.keep(), FULL);
        due(26, "kept", x.count(8), 2);
        x.hush();
        due(26, "undo goes on", x.undo(), 0);
        x.back();
        due(26, "keep again", x.keep(), 2);
    }

    private static void goingBack() {
        SaltToLiars x = new SaltToLiars();
        due(27, "back to nothing", x.back(), NO);
        x.say(3, 1, true);
        x.tell(0, true);
        x.keep();
        x.say(0, 0, false);
        x.write('g');
        x.keep();
        x.say(0, 3, true);
        x.undo();
        x.undo();
        x.undo();
        x.hush();
        x.tell(3, false);
        x.write('0');
        due(27, "back", x.back(), 1);
        int[] second = {5, 4, 0, 0, 2, 2, 2, 0, 1, 2};
        for (int k = 0; k < second.length; k++) {
            due(27, "count " + k, x.count(k), second[k]);
        }
        due(27, "trail", x.trail(), 13);
        due(27, "lied", x.guest(0, 3), 1);
        due(27, "went", x.went(1, 1), 3);
        due(27, "fits", x.fits(0), 4);
        due(27, "undo", x.undo(), NO);
        x.say(4, 3, true);
        due(27, "the new one can be undone", x.undo(), 0);
        due(27, "back to the first", x.back(), 0);
        int[] first = {5, 4, 0, 3, 1, 1, 2, 0, 0, 2};
        for (int k = 0; k < first.length; k++) {
            due(27, "count then " + k, x.count(k), first[k]);
        }
        due(27, "trail of the first", x.trail(), 12);
        due(27, "lied of the first", x.guest(0, 3), 0);
        due(27, "back no more", x.back(), NO);
        due(27, "text stays", x.fault(), 0);
    }

    private static void counting() {
        SaltToLiars x = new SaltToLiars();
        for (int what : new int[] {-1, 10, LOW, HIGH}) {
            due(28, "count " + what, x.count(what), BAD);
        }
        x.say(2, 1, true);
        x.sayBoth(0, 0, false, 3, 1, true);
        x.hush();
        x.tell(1, true);
        x.keep();
        x.write('x');
        x.write('y');
        x.undo();
        // 2 to 1 toward the deaf one; alike by 2 and 2
        int[] want = {5, 4, 0, 1, 2, 3, 1, 2, 1, 2};
        for (int what = 0; what < want.length; what++) {
            due(28, "count " + what, x.count(what), want[what]);
        }
        for (int k = 0; k < 20; k++) {
            x.hush();
        }
        due(28, "all rounds", x.count(4), 22);
        due(28, "law", plainEight(3).count(2), 3);
    }
}
