/** Each sentence on what can be so, at once and whom to believe that names a bound (promises 14 to 28), by a test of its own. */
public final class ReasonBoundsTest {
    private static final int NEARER = 0, ROUND = 1, ONE = 2, PAST = 3;

    public static void main(String[] args) {
        waysInAll();
        lowestThatFits();
        fitsByTheLastTen();
        fitsFromWhereItWent();
        fitsBad();
        sureByAllAndNone();
        sureAlwaysFits();
        lawsByTheLastTen();
        askTheFirstOfSeveral();
        askLastOne();
        askAtTheWorst();
        askBad();
        fewestInNone();
        fewestInSix();
        fewestSum();
        fewestOfWhatHeKnows();
        fewestByAnybody();
        fewestByNobody();
        fewestByEveryPath();
        fewestBad();
        storyOfNobodyAndAll();
        storyOfThingsThatThereAre();
        storyBad();
        restsOfFive();
        restsOfAllFour();
        restsOfNone();
        restsByRounds();
        restsBad();
        Check.finish();
    }

    private static SaltToLiars plain(int law, int salt) {
        return Check.laid(Check.alike(8, 0, law, salt));
    }

    private static void hush(SaltToLiars x, int rounds) {
        for (int k = 0; k < rounds; k++) {
            x.hush();
        }
    }

    // ---- promises 14 and 15

    private static void waysInAll() {
        Check.sentence("FITS: of all ways in which THINGS can be so or not");
        for (int things = 1; things <= 6; things++) {
            SaltToLiars x = Check.laid("g0,5,0;".repeat(3) + "t1,1;".repeat(things));
            Check.due("ways of " + things, x.fits(0), 1 << things);
            Check.due("the lowest", x.fits(1), 0);
            for (int t = 0; t < things; t++) {
                x.say(1, t, true);
            }
            Check.due("all are told as so", x.fits(0), 1);
            Check.due("that one", x.fits(1), (1 << things) - 1);
        }
    }

    private static void lowestThatFits() {
        Check.sentence("FITS: how many; the lowest");
        SaltToLiars x = Check.laid("g0,5,0;".repeat(3) + "t0,1;t1,1;t0,1;t1,1;t0,1;t1,1;");
        x.say(1, 5, true);
        Check.due("the last thing is so", x.fits(0), 32);
        Check.due("lowest", x.fits(1), 32);
        x.say(1, 0, false);
        Check.due("the first thing is not", x.fits(0), 16);
        Check.due("lowest still", x.fits(1), 32);
        x.sayBoth(1, 1, false, 2, 3, false);
        // both lie or neither does
        Check.due("two alike", x.fits(0), 8);
        Check.due("lowest: neither", x.fits(1), 32);
        x.say(2, 1, true);
        Check.due("so both", x.fits(1), 42);
    }

    private static void fitsByTheLastTen() {
        Check.sentence("FITS: .. by which each ROUND that WENT (the last 10)");
        SaltToLiars x = plain(NEARER, 0);
        x.say(4, 3, false);
        hush(x, 9);
        Check.due("the tenth still tells", x.fits(0), 8);
        Check.due("lowest", x.fits(1), 8);
        x.hush();
        Check.due("the eleventh does not", x.fits(0), 16);
        x.undo();
        Check.due("undone, it is the tenth again", x.fits(0), 8);
    }

    private static void fitsFromWhereItWent() {
        Check.sentence("FITS: .. from where it went, would have gone as it did");
        SaltToLiars x = plain(NEARER, 0);
        x.say(0, 0, false);
        Check.due("at his seat it tells nothing", x.fits(0), 16);
        x.say(4, 3, false);
        x.say(4, 1, false);
        Check.due("there now, nothing either", x.fits(0), 8);
        x.say(0, 1, false);
        Check.due("from 4 it does", x.fits(0), 4);
        Check.due("lowest", x.fits(1), 10);
    }

    private static void fitsBad() {
        Check.sentence("Promise 14: how many (what = 0), the lowest (1). BAD");
        SaltToLiars x = new SaltToLiars();
        for (int what : Check.outside(0, 1)) {
            Check.due("fits " + what, x.fits(what), Check.BAD);
        }
    }

    private static void sureByAllAndNone() {
        Check.sentence("SURE: THINGS (bits) that are so by all ways that FIT; that are so by none of these");
        for (int things = 1; things <= 6; things++) {
            StringBuilder text = new StringBuilder("g0,5,0;g0,5,0;g0,5,0;");
            for (int t = 0; t < things; t++) {
                text.append("t").append(t % 2).append(",1;");
            }
            SaltToLiars x = Check.laid(text.toString());
            int so = 0;
            int not = 0;
            for (int t = 0; t < things; t++) {
                Check.due("so ahead of " + t, x.sure(true), so);
                Check.due("not so ahead of " + t, x.sure(false), not);
                x.say(1, t, t % 2 == 1);
                so |= t % 2 << t;
                not |= (1 - t % 2) << t;
            }
            Check.due("so at the end", x.sure(true), so);
            Check.due("not so at the end", x.sure(false), not);
            hush(x, 10);
            Check.due("so behind ten more", x.sure(true), 0);
            Check.due("not so behind ten more", x.sure(false), 0);
        }
    }

    private static void sureAlwaysFits() {
        Check.sentence("NONE: nothing FITS (the way it is always does)");
        SaltToLiars x = new SaltToLiars();
        for (int k = 0; k < 60; k++) {
            x.sayBoth(k % 5, k % 4, k % 3 == 0, (k + 1 + k / 5 % 4) % 5, k / 4 % 4, k % 2 == 0);
            int so = x.sure(true);
            int not = x.sure(false);
            Check.due("it is not so, what is not", so & 10, 0);
            Check.due("it is so, what is", not & 5, 0);
            Check.due("some fit", x.fits(0) > 0 ? 1 : 0, 1);
            Check.due("its law fits", x.laws() & 1, 1);
            Check.due("something is to be asked", x.ask(0) >= 0 && x.ask(1) > 0 ? 1 : 0, 1);
        }
    }

    // ---- promise 16

    private static void lawsByTheLastTen() {
        Check.sentence("LAWS: those (bits) by which .. each ROUND that WENT would have gone as it did");
        int[] alone = {1, 2, 4, 8};
        for (int law = NEARER; law <= PAST; law++) {
            SaltToLiars x = plain(law, 0);
            Check.due("no round tells", x.laws(), 15);
            x.say(5, 1, false);
            Check.due("two of three down", x.laws(), alone[law]);
            hush(x, 9);
            Check.due("the tenth still tells", x.laws(), alone[law]);
            x.hush();
            Check.due("the eleventh does not", x.laws(), 15);
        }
        SaltToLiars up = plain(NEARER, 0);
        up.say(4, 0, false);
        Check.due("one up: all but PAST", up.laws(), 7);
        SaltToLiars past = plain(PAST, 0);
        past.say(1, 0, false);
        Check.due("two up: PAST alone", past.laws(), 8);
    }

    // ---- promise 17

    private static void askTheFirstOfSeveral() {
        Check.sentence("ASK: .. of several the first (by GUEST, then THING): 8 times the GUEST and the THING");
        Check.due("guest 1, thing 0: guest 0 has the salt", plain(NEARER, 0).ask(0), 8);
        Check.due("guest 0, thing 0", plain(NEARER, 7).ask(0), 0);
        SaltToLiars things = plain(NEARER, 7);
        things.say(1, 0, true);
        Check.due("guest 0, thing 1: thing 0 is known", things.ask(0), 1);
        SaltToLiars both = Check.laid("g4,5,0;g4,5,0;g0,5,0;t1,1;t1,2;");
        Check.due("guest 1, thing 1: friends are not told by 1", both.ask(0), 9);
    }

    private static void askLastOne() {
        Check.sentence("ASK: 8 times the GUEST and the THING; how many: of the last ones");
        SaltToLiars x = Check.laid("g4,5,0;".repeat(7) + "g0,5,0;" + "t1,1;".repeat(6));
        for (int t = 0; t < 6; t++) {
            Check.due("thing " + t, x.ask(0), 56 + t);
            Check.due("how many", x.ask(1), 32 >> t);
            x.say(7, t, true);
        }
        Check.due("nothing is to be told: the first", x.ask(0), 0);
        Check.due("one", x.ask(1), 1);
    }

    private static void askAtTheWorst() {
        Check.sentence("ASK: .. of ways that FIT, fewest would move the salt .. to the same SEAT, at the worst");
        SaltToLiars all = Check.laid("g4,5,0;".repeat(8) + "t1,1;".repeat(6));
        Check.due("nobody's counts: all 64 alike", all.ask(1), 64);
        Check.due("the first", all.ask(0), 0);
        // it stays but by the other one's alone: 3 of 4 ways; thing 0 is so by 1 of these, thing 1 by 2: either 2 at the worst
        SaltToLiars uneven = Check.laid("g0,5,0;g0,5,0;g0,5,0;t0,1;t1,1;a0;");
        uneven.sayBoth(0, 0, true, 2, 1, true);
        Check.due("ways", uneven.fits(0), 3);
        Check.due("which", uneven.ask(0), 8);
        Check.due("how many", uneven.ask(1), 2);
        SaltToLiars one = Check.laid("g0,5,0;".repeat(3) + "t1,1;");
        Check.due("one of two", one.ask(1), 1);
    }

    private static void askBad() {
        Check.sentence("Promise 17: which (what = 0), how many (1). BAD");
        SaltToLiars x = new SaltToLiars();
        for (int what : Check.outside(0, 1)) {
            Check.due("ask " + what, x.ask(what), Check.BAD);
        }
    }

    // ---- promise 18

    private static void fewestInNone() {
        Check.sentence("FEWEST for a SEAT in n (0 to 6) ROUNDS: in none");
        for (int n = 3; n <= 8; n++) {
            for (int salt = 0; salt < n; salt++) {
                SaltToLiars x = Check.laid("g0,5,1;".repeat(n) + "t1,4;a" + salt + ";");
                for (int seat = 0; seat < n; seat++) {
                    Check.due("seat " + seat + " from " + salt, x.fewest(seat, 0), seat == salt ? 0 : Check.NONE);
                }
            }
        }
    }

    private static void fewestInSix() {
        Check.sentence("FEWEST for a SEAT in n (0 to 6) ROUNDS .. by which the salt is there at their end; none");
        SaltToLiars x = Check.laid("g0,5,0;".repeat(7) + "g0,5,1;t1,1;l1;");
        for (int n = 0; n <= 6; n++) {
            for (int seat = 0; seat < 8; seat++) {
                Check.due("up to " + seat + " in " + n, x.fewest(seat, n), seat <= n ? seat : Check.NONE);
            }
        }
        // who is silent or speaks what is so leaves it where it is, but a deaf one draws it in each round
        SaltToLiars deaf = Check.laid("g1,5,0;".repeat(1) + "g0,5,0;".repeat(7) + "t1,1;a4;");
        for (int n = 0; n <= 6; n++) {
            for (int seat = 0; seat < 8; seat++) {
                int at = n < 4 ? (4 + n) % 8 : 0;
                Check.due("drawn to " + seat + " in " + n, deaf.fewest(seat, n), seat == at ? 0 : Check.NONE);
            }
        }
    }

    private static void fewestSum() {
        Check.sentence("FEWEST: the least sum of what UNTRUTHS in them count");
        SaltToLiars x = Check.laid("g0,5,0;".repeat(4) + "g3,5,3;" + "g0,5,0;".repeat(3) + "t1,4;t1,1;l2;");
        Check.due("four steps by 2 each", x.fewest(4, 4), 8);
        Check.due("not in three", x.fewest(4, 3), Check.NONE);
        Check.due("nor more in six", x.fewest(4, 6), 8);
        SaltToLiars dear = Check.laid("g0,5,0;".repeat(4) + "g3,5,1;" + "g0,5,0;".repeat(3) + "t0,4;t1,1;l2;");
        Check.due("four steps by 8 each", dear.fewest(4, 6), 32);
        SaltToLiars nearer = Check.laid("g0,5,0;".repeat(4) + "g3,5,3;" + "g0,5,0;".repeat(3) + "t1,4;t1,1;l0;");
        Check.due("at once by 8", nearer.fewest(4, 1), 8);
        Check.due("in two by 2 and 2", nearer.fewest(4, 2), 4);
        SaltToLiars free = Check.laid("g2,5,1;g4,5,1;g1,5,0;g0,5,0;t1,1;a0;");
        Check.due("untruths that do not count cost nothing", free.fewest(2, 2), 0);
    }

    private static void fewestOfWhatHeKnows() {
        Check.sentence("FEWEST: in each of which one says of a THING that he knows that it is so or not");
        for (int known = 0; known < 64; known++) {
            SaltToLiars x = Check.laid("g0,5,0;g0,5," + known + ";g0,5,0;t1,4;t0,3;t1,2;a0;");
            int lightest = (known & 4) != 0 ? 2 : (known & 2) != 0 ? 3 : (known & 1) != 0 ? 4 : Check.NONE;
            Check.due("by S " + known, x.fewest(1, 1), lightest);
            Check.due("by S " + known + " in six", x.fewest(1, 6), lightest);
            Check.due("to one who knows nothing", x.fewest(2, 6), Check.NONE);
        }
        // he alone is deaf: he speaks what is so and so keeps it away
        SaltToLiars away = Check.laid("g0,5,0;g1,5,1;g0,5,0;t1,4;a0;");
        Check.due("it stays, as he speaks what is so", away.fewest(0, 6), 0);
        SaltToLiars mute = Check.laid("g0,5,0;g1,5,2;g0,5,0;t1,4;a0;");
        Check.due("it does not, as he knows nothing that there is", mute.fewest(0, 6), Check.NONE);
    }

    private static void fewestByAnybody() {
        Check.sentence("FEWEST: in each of which one says: the first GUEST and the last one, too");
        for (int n = 3; n <= 8; n++) {
            for (int liar = 0; liar < n; liar++) {
                String text = "g0,5,0;".repeat(liar) + "g0,5,32;" + "g0,5,0;".repeat(n - liar - 1);
                SaltToLiars x = Check.laid(text + "t1,1;".repeat(5) + "t0,4;a" + (liar + 1) % n + ";");
                Check.due("to " + liar + " of " + n, x.fewest(liar, 1), 4);
                Check.due("to another one", x.fewest((liar + 2) % n, 6), Check.NONE);
            }
        }
    }

    private static void fewestByNobody() {
        Check.sentence("FEWEST: .. or nobody says anything");
        // only the deaf one knows anything: if he speaks what is so, it stays, if he lies, it costs
        SaltToLiars x = Check.laid("g1,5,1;" + "g0,5,0;".repeat(6) + "t1,1;a3;");
        for (int n = 0; n <= 6; n++) {
            for (int seat = 0; seat <= 3; seat++) {
                Check.due("to " + seat + " in " + n, x.fewest(seat, n), seat >= 3 - n ? 0 : Check.NONE);
            }
        }
    }

    /** The least sum over all ways to spend n rounds, each of them played. */
    private static int fewestPlayed(SaltToLiars x, int seat, int n) {
        if (n == 0) {
            return x.count(3) == seat ? 0 : Check.HIGH;
        }
        x.hush();
        int least = fewestPlayed(x, seat, n - 1);
        x.undo();
        for (int i = 0; i < 3; i++) {
            for (int t = 0; t < 2; t++) {
                if ((x.guest(i, 2) >> t & 1) == 1) {
                    boolean so = x.thing(t, 0) == 1;
                    x.say(i, t, so);
                    least = Math.min(least, fewestPlayed(x, seat, n - 1));
                    x.undo();
                    x.say(i, t, !so);
                    int rest = fewestPlayed(x, seat, n - 1);
                    least = Math.min(least, rest == Check.HIGH ? rest : rest + x.weight(i, t));
                    x.undo();
                }
            }
        }
        return least;
    }

    private static void fewestByEveryPath() {
        Check.sentence("FEWEST: the least sum .. by which the salt is there at their end: by every path that is played");
        String[] texts = {"g0,5,3;g2,5,1;g3,5,2;t1,2;t0,1;", "g1,5,1;g0,5,2;g4,5,3;t1,1;t1,3;", "g1,5,0;g1,5,2;g3,5,1;t0,1;t0,2;"};
        for (String text : texts) {
            for (int k = 0; k < 12; k++) {
                String whole = text + "l" + k % 4 + ";a" + k / 4 + ";";
                for (int seat = 0; seat < 3; seat++) {
                    for (int n = 0; n <= 2; n++) {
                        int least = fewestPlayed(Check.laid(whole), seat, n);
                        int want = least == Check.HIGH ? Check.NONE : least;
                        Check.due("to " + seat + " in " + n + " of " + whole, Check.laid(whole).fewest(seat, n), want);
                    }
                }
            }
        }
    }

    private static void fewestBad() {
        Check.sentence("Promise 18: a SEAT such as there is, n 0 to 6. BAD");
        for (int guests = 3; guests <= 8; guests++) {
            SaltToLiars x = Check.laid("g0,5,1;".repeat(guests) + "t1,4;");
            Check.due("the last seat", x.fewest(guests - 1, 6), 4);
            for (int seat : Check.outside(0, guests - 1)) {
                Check.due("seat " + seat, x.fewest(seat, 6), Check.BAD);
            }
            for (int n : Check.outside(0, 6)) {
                Check.due("n " + n, x.fewest(0, n), Check.BAD);
                Check.due("neither", x.fewest(guests, n), Check.BAD);
            }
        }
    }

    // ---- promise 19

    private static void storyOfNobodyAndAll() {
        Check.sentence("STORY by a set of GUESTS (bits) ..; a set may be 0");
        for (int guests = 3; guests <= 8; guests++) {
            StringBuilder text = new StringBuilder();
            for (int i = 0; i < guests; i++) {
                text.append("g0,5,").append(i < 6 ? 1 << i : 0).append(";");
            }
            SaltToLiars x = Check.laid(text + "t0,1;t0,1;t1,1;t1,1;t0,1;t0,1;");
            int everybody = (1 << guests) - 1;
            Check.due("nobody", x.story(0, 0), 0);
            Check.due("nobody knows", x.story(0, 1), 4);
            Check.due("everybody", x.story(everybody, 0), everybody & 63);
            Check.due("nobody knows of these", x.story(everybody, 1), Integer.bitCount(51 & ~everybody));
            for (int set = 0; set <= everybody; set++) {
                Check.due("story of " + set, x.story(set, 0), set & 63);
            }
        }
    }

    private static void storyOfThingsThatThereAre() {
        Check.sentence("STORY: the THINGS that some of them know (THINGS: such as there are)");
        for (int things = 1; things <= 6; things++) {
            SaltToLiars x = Check.laid("g0,5,63;g0,5,0;g0,5,62;" + "t0,1;".repeat(things));
            Check.due("all", x.story(1, 0), (1 << things) - 1);
            Check.due("all but the first", x.story(4, 0), (1 << things) - 2);
            Check.due("all but the first, not known", x.story(4, 1), 1);
            Check.due("none, not known", x.story(2, 1), things);
        }
    }

    private static void storyBad() {
        Check.sentence("Promise 19: a set of GUESTS such as there are; what = 0, 1. BAD");
        for (int guests = 3; guests <= 8; guests++) {
            SaltToLiars x = Check.laid("g0,5,1;".repeat(guests) + "t0,4;");
            Check.due("the last one alone", x.story(1 << guests - 1, 0), 1);
            for (int set : Check.outside(0, (1 << guests) - 1)) {
                Check.due("set " + set, x.story(set, 0), Check.BAD);
                Check.due("set " + set + ", how many", x.story(set, 1), Check.BAD);
            }
            for (int what : Check.outside(0, 1)) {
                Check.due("what " + what, x.story(0, what), Check.BAD);
            }
        }
    }

    // ---- promise 20

    private static void restsAre(SaltToLiars x, int i, int s, int j, int t, int many, int first) {
        String what = i + " by " + s + ", " + j + " by " + t;
        Check.due("rests of " + what, x.rests(i, s, j, t, 0), many);
        Check.due("first of " + what, x.rests(i, s, j, t, 1), first);
    }

    private static void restsOfFive() {
        Check.sentence("RESTS: each has 5 of it, if the salt is at his SEAT then, and pays what his counts");
        // the bishop pays 4 by thing 0 and has 1 more, pays 6 by thing 1 and has 1 less; the friend's by thing 2 does nothing
        SaltToLiars x = Check.laid("g3,5,0;g0,5,0;g4,5,0;t1,2;t1,3;t1,1;a1;");
        restsAre(x, 0, 0, 2, 2, 2, 0);
        restsAre(x, 0, 1, 2, 2, 2, 2);
        restsAre(x, 2, 2, 0, 0, 2, 0);
        restsAre(x, 2, 2, 0, 1, 2, 1);
    }

    private static void restsOfAllFour() {
        Check.sentence("RESTS: the first (0 both do, 1 the first one alone, 2 the other one alone, 3 neither)");
        SaltToLiars free = Check.laid("g4,5,0;".repeat(3) + "t1,1;");
        restsAre(free, 1, 0, 2, 0, 4, 0);
        SaltToLiars x = plain(NEARER, 0);
        restsAre(x, 1, 0, 4, 0, 1, 1);
        restsAre(x, 4, 0, 1, 0, 1, 2);
        restsAre(x, 4, 0, 5, 0, 1, 3);
        // of one and the same thing: each alone would have it by 1, both at once neither
        restsAre(x, 1, 0, 7, 0, 2, 1);
    }

    private static void restsOfNone() {
        Check.sentence("Promise 20: RESTS .. the first (1; NONE)");
        restsAre(plain(NEARER, 0), 0, 0, 1, 0, 0, Check.NONE);
        restsAre(plain(NEARER, 0), 1, 0, 0, 0, 0, Check.NONE);
    }

    /** What one has if the round goes so, by the round itself. */
    private static int has(SaltToLiars x, int salt, int i, int t, boolean lies) {
        return (salt == i ? 5 : 0) - (lies ? x.weight(i, t) : 0);
    }

    private static void restsByRounds(String text, int i, int s, int j, int t) {
        SaltToLiars x = Check.laid(text);
        boolean notS = x.thing(s, 0) == 0;
        boolean notT = x.thing(t, 0) == 0;
        int[] at = new int[4];
        at[0] = x.sayBoth(i, s, notS, j, t, notT);
        x.undo();
        at[1] = x.say(i, s, notS);
        x.undo();
        at[2] = x.say(j, t, notT);
        x.undo();
        at[3] = x.hush();
        x.undo();
        int many = 0;
        int first = Check.NONE;
        for (int way = 3; way >= 0; way--) {
            boolean lies = way < 2;
            boolean alsoLies = way % 2 == 0;
            int other = way < 2 ? way + 2 : way - 2;
            int alsoOther = way % 2 == 0 ? way + 1 : way - 1;
            if (has(x, at[way], i, s, lies) >= has(x, at[other], i, s, !lies)
                && has(x, at[way], j, t, alsoLies) >= has(x, at[alsoOther], j, t, !alsoLies)) {
                many++;
                first = way;
            }
        }
        restsAre(x, i, s, j, t, many, first);
    }

    private static void restsByRounds() {
        Check.sentence("RESTS: in how many of the four ways neither would have more by doing otherwise alone");
        for (int law = NEARER; law <= PAST; law++) {
            String text = "g0,7,3;g1,9,0;g2,9,5;g3,5,9;g4,8,9;t1,2;t0,1;t1,3;t0,4;a2;l" + law + ";";
            for (int k = 0; k < 400; k++) {
                int i = k % 5;
                int j = k / 5 % 5;
                if (i != j) {
                    restsByRounds(text, i, k / 25 % 4, j, k / 100);
                }
            }
        }
    }

    private static void restsBad() {
        Check.sentence("Promise 20: RESTS of i by s and j by t. BAD (i, j alike, too)");
        for (int guests = 3; guests <= 8; guests++) {
            int things = guests - 2;
            SaltToLiars x = Check.laid("g4,5,0;".repeat(guests) + "t1,1;".repeat(things));
            Check.due("the last ones", x.rests(guests - 2, things - 1, guests - 1, things - 1, 0), 4);
            for (int i : Check.outside(0, guests - 1)) {
                Check.due("i " + i, x.rests(i, 0, 1, 0, 0), Check.BAD);
                Check.due("j " + i, x.rests(1, 0, i, 0, 1), Check.BAD);
                Check.due("both " + i, x.rests(i, 0, i, 0, 1), Check.BAD);
            }
            for (int t : Check.outside(0, things - 1)) {
                Check.due("s " + t, x.rests(0, t, 1, 0, 0), Check.BAD);
                Check.due("t " + t, x.rests(0, 0, 1, t, 1), Check.BAD);
            }
            for (int what : Check.outside(0, 1)) {
                Check.due("what " + what, x.rests(0, 0, 1, 0, what), Check.BAD);
            }
            for (int i = 0; i < guests; i++) {
                Check.due("alike " + i, x.rests(i, 0, i, things - 1, 0), Check.BAD);
                Check.due("alike " + i + ", the first", x.rests(i, 0, i, things - 1, 1), Check.BAD);
            }
        }
    }
}
