import java.math.BigInteger;

/** Each sentence on whom to believe, dinners and what is kept that names a bound (promises 21 to 28), by a test of its own. */
public final class BelieveBoundsTest {
    public static void main(String[] args) {
        eightTold();
        tellBad();
        forgetAll();
        believeNothing();
        believeByHonesty();
        believeLowestTerms();
        believeMost();
        neitherCanBe();
        believeBad();
        trailBits();
        dinnerBounds();
        dinnerIsAsRounds();
        dinnerFromNowOn();
        dinnerChangesNothing();
        dinnerUntruths();
        twoKept();
        backToTheLastKept();
        backToNothing();
        nothingUndoneBehindBack();
        toldAndTextStay();
        keptWithItsRounds();
        keptStandsByItself();
        countBad();
        countBounds();
        Check.finish();
    }

    // ---- promises 21 and 22

    private static void eightTold() {
        Check.sentence("BELIEVE (8 sayings at most are TOLD)");
        SaltToLiars x = new SaltToLiars();
        for (int k = 1; k <= 8; k++) {
            Check.due("the " + k + "th", x.tell(k % 5, k % 2 == 0), k);
            Check.due("told", x.count(6), k);
        }
        Check.due("the 9th", x.tell(0, true), Check.FULL);
        Check.due("the 9th again", x.tell(4, false), Check.FULL);
        Check.due("told still", x.count(6), 8);
        Check.due("forget", x.forget(), 8);
        Check.due("the first again", x.tell(0, true), 1);
    }

    private static void tellBad() {
        Check.sentence("Promise 21: TOLD: how many. BAD; FULL");
        for (int guests = 3; guests <= 8; guests++) {
            SaltToLiars x = Check.laid("g0,7,0;".repeat(guests) + "t0,1;");
            for (int i : Check.outside(0, guests - 1)) {
                Check.due("guest " + i, x.tell(i, true), Check.BAD);
            }
            Check.due("the last guest", x.tell(guests - 1, true), 1);
            for (int k = 2; k <= 8; k++) {
                x.tell(0, true);
            }
            Check.due("one too many", x.tell(guests - 1, true), Check.FULL);
            Check.due("one too many by nobody", x.tell(guests, true), Check.BAD);
        }
    }

    private static void forgetAll() {
        Check.sentence("Promise 22: Nothing is TOLD: how many were");
        for (int told = 0; told <= 8; told++) {
            SaltToLiars x = new SaltToLiars();
            for (int k = 0; k < told; k++) {
                x.tell(2, true);
            }
            Check.due("forget of " + told, x.forget(), told);
            Check.due("forget of none", x.forget(), 0);
            Check.due("below", x.believe(1), 2);
        }
    }

    // ---- promise 23

    private static void believed(SaltToLiars x, long above, long below) {
        Check.due("above", x.believe(0), above);
        Check.due("below", x.believe(1), below);
    }

    private static void believeNothing() {
        Check.sentence("BELIEVE: the chance that it is so, either being as likely ahead");
        believed(new SaltToLiars(), 1, 2);
    }

    private static void believeByHonesty() {
        Check.sentence("each saying what is so by H of ten (0 to 10)");
        long[] below = {1, 10, 5, 10, 5, 2, 5, 10, 5, 10, 1};
        long[] above = {0, 1, 1, 3, 2, 1, 3, 7, 4, 9, 1};
        for (int honesty = 0; honesty <= 10; honesty++) {
            SaltToLiars x = Check.laid("g0," + honesty + ",0;g0,5,0;g0,5,0;t0,1;");
            x.tell(0, true);
            believed(x, above[honesty], below[honesty]);
            x.forget();
            x.tell(0, false);
            believed(x, below[honesty] - above[honesty], below[honesty]);
            x.tell(0, true);
            // the same one says both: even, unless neither can be
            believed(x, honesty % 10 == 0 ? Check.NONE : 1, honesty % 10 == 0 ? Check.NONE : 2);
        }
    }

    private static void believeLowestTerms() {
        Check.sentence("BELIEVE: .. in lowest terms");
        SaltToLiars x = Check.laid("g0,8,0;g0,6,0;g0,4,0;t0,1;");
        x.tell(0, true);
        x.tell(1, true);
        // 48 of 48 and 8
        believed(x, 6, 7);
        x.tell(2, false);
        // 288 of 288 and 32
        believed(x, 9, 10);
        x.tell(2, true);
        x.tell(1, true);
        believed(x, 9, 10);
    }

    private static void believeMost() {
        Check.sentence("BELIEVE: of 8 sayings, as large as they come");
        long[] pure = {0, 1, 256, 6561, 65536, 390625, 1679616, 5764801, 16777216, 43046721, 1};
        for (int honesty = 0; honesty <= 10; honesty++) {
            SaltToLiars x = Check.laid("g0," + honesty + ",0;g0,5,0;g0,5,0;t0,1;");
            for (int k = 0; k < 8; k++) {
                x.tell(0, true);
            }
            long so = pure[honesty];
            long not = pure[10 - honesty];
            long shared = BigInteger.valueOf(so).gcd(BigInteger.valueOf(so + not)).longValue();
            believed(x, so / shared, (so + not) / shared);
        }
    }

    private static void neitherCanBe() {
        Check.sentence("BELIEVE: .. none (neither can be)");
        SaltToLiars x = Check.laid("g0,0,0;g0,10,0;g0,5,0;t0,1;");
        x.tell(0, true);
        believed(x, 0, 1);
        x.tell(1, false);
        believed(x, 0, 1);
        x.tell(1, true);
        believed(x, Check.NONE, Check.NONE);
        x.tell(2, true);
        believed(x, Check.NONE, Check.NONE);
        x.forget();
        believed(x, 1, 2);
    }

    private static void believeBad() {
        Check.sentence("Promise 23: above (part = 0), below (1). NONE; BAD");
        SaltToLiars x = new SaltToLiars();
        for (int part : Check.outside(0, 1)) {
            Check.due("part " + part, x.believe(part), Check.BAD);
        }
        x.tell(2, true);
        x.tell(2, false);
        Check.due("none", x.believe(0), Check.NONE);
        for (int part : Check.outside(0, 1)) {
            Check.due("part " + part + " of none", x.believe(part), Check.BAD);
        }
    }

    // ---- promises 24 and 25

    private static void trailBits() {
        Check.sentence("Promise 24: TRAIL, as bits");
        for (int n = 3; n <= 8; n++) {
            SaltToLiars x = Check.laid("g0,5,0;".repeat(n) + "t1,4;l2;a" + (n - 1) + ";");
            int trail = 1 << n - 1;
            Check.due("at first", x.trail(), trail);
            for (int seat = 0; seat < n; seat++) {
                Check.due("one step on", x.say(seat, 0, false), seat);
                trail |= 1 << seat;
                Check.due("with " + seat, x.trail(), trail);
            }
        }
    }

    private static void dinnerBounds() {
        Check.sentence("A DINNER by z (0 to 9999) of n (1 to 60) ROUNDS");
        SaltToLiars x = Check.laid("g0,0,0;".repeat(3) + "t1,4;");
        Check.due("the least", x.dinner(0, 1, 1), 1);
        Check.due("the most", x.dinner(9999, 60, 1), 60);
        Check.due("the least z, the most n", x.dinner(0, 60, 1), 60);
        Check.due("the most z, the least n", x.dinner(9999, 1, 1), 1);
        for (int what = 0; what <= 1; what++) {
            for (int z : Check.outside(0, 9999)) {
                Check.due("z " + z, x.dinner(z, 60, what), Check.BAD);
            }
            for (int n : Check.outside(1, 60)) {
                Check.due("n " + n, x.dinner(9999, n, what), Check.BAD);
            }
        }
        for (int what : Check.outside(0, 1)) {
            Check.due("what " + what, x.dinner(0, 1, what), Check.BAD);
        }
    }

    private static int draw(int z, int k) {
        BigInteger x = BigInteger.valueOf(7919).multiply(BigInteger.valueOf(z))
            .add(BigInteger.valueOf(6151).multiply(BigInteger.valueOf(k))).add(BigInteger.ONE);
        return x.multiply(x).mod(BigInteger.valueOf(65521)).intValue() / 8;
    }

    /** One round of the dinner as a round of the evening. */
    private static void playDrawn(SaltToLiars x, int draw) {
        int i = draw % x.count(0);
        int t = draw / 8 % x.count(1);
        boolean so = x.thing(t, 0) == 1;
        x.say(i, t, draw / 64 % 10 < x.guest(i, 1) ? so : !so);
    }

    private static void dinnerIsAsRounds() {
        Check.sentence("in the k-th (0 first), DRAW being ((x times x) modulo 65521) by 8, cut");
        String[] texts = {"g0,7,3;g1,9,0;g2,10,5;g3,5,15;g4,8,9;t1,2;t0,1;t1,3;t0,4;a2;",
            "g0,0,0;g1,1,0;g2,5,0;g3,9,0;g4,10,0;g0,4,0;g2,3,0;t1,1;t0,2;t1,3;t0,4;t1,2;t0,3;l1;a6;",
            "g3,2,0;g3,8,0;g1,5,0;t0,3;l3;a1;"};
        for (String text : texts) {
            for (int z : new int[] {0, 1, 2, 4999, 9998, 9999}) {
                SaltToLiars x = Check.laid(text);
                SaltToLiars dinner = Check.laid(text);
                for (int k = 0; k < 60; k++) {
                    playDrawn(x, draw(z, k));
                    Check.due("where in " + (k + 1) + " by " + z, dinner.dinner(z, k + 1, 0), x.count(3));
                    Check.due("untruths in " + (k + 1) + " by " + z, dinner.dinner(z, k + 1, 1), x.count(5));
                }
            }
        }
    }

    private static void dinnerFromNowOn() {
        Check.sentence("A DINNER .. from now on");
        SaltToLiars x = Check.laid("g0,10,0;".repeat(3) + "t1,4;");
        Check.due("all tell what is so: where it is", x.dinner(7, 60, 0), 0);
        x.say(2, 0, false);
        Check.due("where it is now", x.dinner(7, 60, 0), 2);
        Check.due("untruths of the dinner alone", x.dinner(7, 60, 1), 0);
    }

    private static void dinnerChangesNothing() {
        Check.sentence("A DINNER .. (nothing changes by it)");
        SaltToLiars x = Check.laid("g0,0,0;".repeat(3) + "t1,4;");
        x.hush();
        x.dinner(3, 60, 0);
        x.dinner(3, 60, 1);
        int[] counts = {3, 1, 0, 0, 1, 0, 0, 1, 0};
        for (int k = 0; k < counts.length; k++) {
            Check.due("count " + k, x.count(k), counts[k]);
        }
        Check.due("trail", x.trail(), 1);
        Check.due("went", x.went(1, 0), Check.BAD);
        Check.due("spoke", x.went(0, 2), 0);
        Check.due("lied", x.guest(0, 3) + x.guest(1, 3) + x.guest(2, 3), 0);
    }

    private static void dinnerUntruths() {
        Check.sentence("what is so, if (DRAW by 64, cut) modulo 10 is less than his H, else the other");
        for (int honesty = 0; honesty <= 10; honesty++) {
            SaltToLiars x = Check.laid(("g4," + honesty + ",0;").repeat(3) + "t0,1;");
            int lies = 0;
            for (int k = 0; k < 60; k++) {
                lies += draw(77, k) / 64 % 10 >= honesty ? 1 : 0;
            }
            Check.due("by H " + honesty, x.dinner(77, 60, 1), lies);
        }
    }

    // ---- promises 26 and 27

    private static void twoKept() {
        Check.sentence("KEPT is all as it stands ..: 2 at most");
        SaltToLiars x = new SaltToLiars();
        Check.due("kept", x.count(8), 0);
        Check.due("the first", x.keep(), 1);
        Check.due("kept", x.count(8), 1);
        Check.due("the second", x.keep(), 2);
        Check.due("the third", x.keep(), Check.FULL);
        Check.due("the third again", x.keep(), Check.FULL);
        Check.due("kept", x.count(8), 2);
        Check.due("back", x.back(), 1);
        Check.due("the second again", x.keep(), 2);
        Check.due("the third", x.keep(), Check.FULL);
    }

    private static void backToTheLastKept() {
        Check.sentence("Promise 27: As KEPT last (it is KEPT no more then): how many are left");
        SaltToLiars x = Check.laid("g0,5,0;".repeat(8) + "t1,4;");
        x.say(1, 0, false);
        x.keep();
        x.say(2, 0, false);
        x.keep();
        x.say(3, 0, false);
        Check.due("a third that is refused", x.keep(), Check.FULL);
        Check.due("back", x.back(), 1);
        Check.due("as kept last", x.count(3), 2);
        Check.due("rounds", x.count(4), 2);
        x.say(4, 0, false);
        Check.due("back", x.back(), 0);
        Check.due("as kept first", x.count(3), 1);
        Check.due("rounds", x.count(4), 1);
        Check.due("back no more", x.back(), Check.NO);
        Check.due("salt stays", x.count(3), 1);
    }

    private static void backToNothing() {
        Check.sentence("Promise 27: .. NO");
        SaltToLiars x = new SaltToLiars();
        Check.due("at first", x.back(), Check.NO);
        x.keep();
        Check.due("back", x.back(), 0);
        Check.due("once more", x.back(), Check.NO);
        x.keep();
        Check.write(x, "g0,5,0;g0,5,0;g0,5,0;t0,1;");
        x.lay();
        Check.due("behind lay", x.back(), Check.NO);
        Check.due("guests", x.count(0), 3);
    }

    private static void nothingUndoneBehindBack() {
        Check.sentence("back(), behind which nothing can be UNDONE");
        SaltToLiars x = Check.laid("g0,5,0;".repeat(8) + "t1,1;l1;");
        for (int k = 0; k < 12; k++) {
            x.say((k + 1) % 8, 0, false);
        }
        x.keep();
        Check.due("that can be undone, behind keep", x.count(7), 8);
        x.undo();
        x.undo();
        Check.due("back", x.back(), 0);
        Check.due("that can be undone", x.count(7), 0);
        Check.due("undo", x.undo(), Check.NO);
        Check.due("rounds", x.count(4), 12);
        for (int k = 1; k <= 9; k++) {
            x.say((12 + k) % 8, 0, false);
            Check.due("new ones can be", x.count(7), Math.min(k, 8));
        }
        for (int k = 7; k >= 0; k--) {
            Check.due("undo of a new one", x.undo(), k);
        }
        Check.due("undo of one that is not new", x.undo(), Check.NO);
        Check.due("rounds left", x.count(4), 13);
        Check.due("the tenth of these", x.went(9, 0), 3);
        Check.due("the eleventh", x.went(10, 0), Check.BAD);
    }

    private static void toldAndTextStay() {
        Check.sentence("KEPT is all as it stands, but what is TOLD and THE TEXT (these stay by back())");
        SaltToLiars x = new SaltToLiars();
        x.tell(0, true);
        x.write('l');
        x.keep();
        x.tell(4, true);
        x.write('0');
        x.write(';');
        x.back();
        Check.due("told", x.count(6), 2);
        Check.due("above", x.believe(0), 28);
        Check.due("letters", x.count(9), 3);
        Check.due("fault", x.fault(), Check.NONE);
        x.keep();
        x.forget();
        x.wipe();
        x.back();
        Check.due("told no more", x.count(6), 0);
        Check.due("no letters", x.count(9), 0);
    }

    private static void keptWithItsRounds() {
        Check.sentence("KEPT is all as it stands: salt, rounds, what went, lied, trail");
        SaltToLiars x = Check.laid("g0,5,0;".repeat(8) + "t1,1;t0,2;l2;");
        for (int k = 0; k < 15; k++) {
            x.say((k + 2) % 8, k % 2, k % 2 == 1);
        }
        int[] before = seen(x);
        x.keep();
        for (int k = 0; k < 25; k++) {
            x.sayBoth(7, 0, false, k % 7, 1, false);
        }
        x.back();
        int[] behind = seen(x);
        for (int k = 0; k < before.length; k++) {
            Check.due("answer " + k, behind[k], before[k]);
        }
    }

    private static int[] seen(SaltToLiars x) {
        int[] all = new int[60];
        int n = 0;
        for (int k = 0; k < 10; k++) {
            for (int what = 0; what < 3; what++) {
                all[n++] = x.went(k, what);
            }
        }
        for (int i = 0; i < 8; i++) {
            all[n++] = x.guest(i, 3);
            all[n++] = x.guest(i, 4);
        }
        for (int k = 3; k <= 5; k++) {
            all[n++] = x.count(k);
        }
        all[n++] = x.trail();
        all[n++] = x.fits(0);
        all[n++] = x.fits(1);
        all[n++] = x.laws();
        all[n++] = x.sure(true);
        all[n++] = x.sure(false);
        all[n++] = x.ask(0);
        all[n++] = x.ask(1);
        return all;
    }

    private static void keptStandsByItself() {
        Check.sentence("KEPT: undone rounds, and rounds behind, change nothing in what is kept");
        SaltToLiars x = Check.laid("g0,5,0;".repeat(8) + "t1,1;t0,2;l2;");
        for (int k = 0; k < 11; k++) {
            x.say((k + 2) % 8, 0, false);
        }
        int[] first = seen(x);
        x.keep();
        for (int k = 0; k < 8; k++) {
            x.undo();
        }
        int[] second = seen(x);
        x.keep();
        for (int k = 0; k < 20; k++) {
            x.say(k % 3, 1, true);
        }
        x.back();
        int[] again = seen(x);
        for (int k = 0; k < second.length; k++) {
            Check.due("second, answer " + k, again[k], second[k]);
        }
        x.hush();
        x.back();
        again = seen(x);
        for (int k = 0; k < first.length; k++) {
            Check.due("first, answer " + k, again[k], first[k]);
        }
    }

    // ---- promise 28

    private static void countBad() {
        Check.sentence("Promise 28: How many: 0 .. 9. BAD");
        SaltToLiars x = new SaltToLiars();
        for (int what : Check.outside(0, 9)) {
            Check.due("count " + what, x.count(what), Check.BAD);
        }
        Check.due("count 0", x.count(0), 5);
        Check.due("count 9", x.count(9), 0);
    }

    private static void countBounds() {
        Check.sentence("Promise 28: each of them, empty and full");
        SaltToLiars x = Check.laid("g0,5,0;".repeat(8) + "t1,1;".repeat(6) + "l3;a7;");
        int[] first = {8, 6, 3, 7, 0, 0, 0, 0, 0, 92};
        for (int k = 0; k < first.length; k++) {
            Check.due("count " + k, x.count(k), first[k]);
        }
        for (int k = 0; k < 9; k++) {
            x.say(7, 0, false);
            x.tell(0, true);
            x.keep();
        }
        while (x.write(';') > 0) {
            Check.due("letters at most 200", x.count(9) <= 200 ? 1 : 0, 1);
        }
        int[] full = {8, 6, 3, 7, 9, 9, 8, 8, 2, 200};
        for (int k = 0; k < full.length; k++) {
            Check.due("count " + k + " when full", x.count(k), full[k]);
        }
    }
}
