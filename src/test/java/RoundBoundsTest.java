/** Each sentence on ROUNDS that names a bound or a way round the table (promises 8 to 13, 24), by a test of its own. */
public final class RoundBoundsTest {
    private static final int NEARER = 0, ROUND = 1, ONE = 2, PAST = 3;
    private static final int PLAIN = 0, BISHOP = 3;

    public static void main(String[] args) {
        countsByWeight();
        countsByKind();
        friendsOfOneNotAtAll();
        whatCountsByNoughtDoesNot();
        truthIsNoUntruth();
        nearer();
        nearerStops();
        alikeWaysGoUp();
        round();
        roundStops();
        one();
        past();
        staysAtHisSeat();
        everyStepRound();
        twoAtOnce();
        twoAlikeStay();
        everyTwoAtOnce();
        towardTheNearestDeaf();
        ofSeveralDeafTheLowest();
        deafWhoSpeakDoNotDraw();
        everyDeafRound();
        sayBad();
        sayBothBad();
        bothMayNameOneThing();
        lastEightUndone();
        undoneIsTheLatest();
        nothingToUndo();
        lastTenWent();
        wentBehindUndone();
        wentBad();
        liedWhetherCountedOrNot();
        trailOfEnds();
        manyRounds();
        Check.finish();
    }

    private static SaltToLiars plain(int guests, int law, int salt) {
        return Check.laid(Check.alike(guests, PLAIN, law, salt));
    }

    /** Where the salt comes by the first untruth at a table of plain ones. */
    private static void lie(int guests, int law, int salt, int liar, int weight, int want) {
        String what = liar + " of " + guests + " by law " + law + " from " + salt + " by " + weight;
        Check.due(what, plain(guests, law, salt).say(liar, weight - 1, false), want);
    }

    // ---- what counts

    private static void countsByWeight() {
        Check.sentence("It counts by the WEIGHT of the THING");
        SaltToLiars x = plain(8, NEARER, 0);
        for (int weight = 1; weight <= 4; weight++) {
            Check.due("weight " + weight, x.weight(7, weight - 1), weight);
        }
        Check.due("of a deaf one", Check.laid("g1,5,0;".repeat(3) + "t0,4;").weight(2, 0), 4);
    }

    private static void countsByKind() {
        Check.sentence("said by a CHILD by 1 less, by a BISHOP by 2 times that");
        SaltToLiars x = Check.laid("g2,5,0;g3,5,0;g2,5,0;t1,1;t1,2;t0,3;t0,4;");
        for (int weight = 1; weight <= 4; weight++) {
            Check.due("child by " + weight, x.weight(2, weight - 1), weight - 1);
            Check.due("bishop by " + weight, x.weight(1, weight - 1), 2 * weight);
        }
    }

    private static void friendsOfOneNotAtAll() {
        Check.sentence("by a FRIEND not at all, if that is 1");
        SaltToLiars x = Check.laid("g4,5,0;g0,5,0;g4,5,0;t1,1;t1,2;t0,3;t0,4;a1;");
        int[] want = {0, 2, 3, 4};
        for (int t = 0; t < 4; t++) {
            Check.due("friend by " + (t + 1), x.weight(2, t), want[t]);
        }
        Check.due("by 1 the salt stays", x.say(2, 0, false), 1);
        Check.due("by 2 it comes", x.say(2, 1, false), 2);
    }

    private static void whatCountsByNoughtDoesNot() {
        Check.sentence("(what counts by 0 does not count)");
        SaltToLiars x = Check.laid("g2,5,0;g4,5,0;g0,5,0;g1,5,0;t1,1;t1,2;a2;");
        Check.due("a child's goes as if none did: to the deaf one", x.say(0, 0, false), 3);
        Check.due("a child's of 2 counts", x.say(0, 1, false), 0);
        Check.due("a friend's goes to the deaf one", x.say(1, 0, false), 3);
        Check.due("both at once, too", x.sayBoth(0, 0, false, 1, 0, false), 3);
        Check.due("beside one that counts it is as by that one alone", x.sayBoth(0, 0, false, 2, 0, false), 2);
    }

    private static void truthIsNoUntruth() {
        Check.sentence("It is an UNTRUTH, if it is otherwise, as it is");
        SaltToLiars x = Check.laid("g0,5,0;".repeat(4) + "t0,1;t1,1;");
        Check.due("not so, said not", x.say(1, 0, false), 0);
        Check.due("so, said so", x.say(1, 1, true), 0);
        Check.due("untruths", x.count(5), 0);
        Check.due("not so, said so", x.say(1, 0, true), 1);
        Check.due("so, said not", x.say(2, 1, false), 2);
        Check.due("untruths then", x.count(5), 2);
    }

    // ---- by one

    private static void nearer() {
        Check.sentence("NEARER by as many as it counts, the shorter way");
        lie(8, NEARER, 0, 3, 1, 1);
        lie(8, NEARER, 0, 3, 2, 2);
        lie(8, NEARER, 0, 5, 1, 7);
        lie(8, NEARER, 0, 5, 2, 6);
        lie(8, NEARER, 6, 1, 2, 0);
        lie(8, NEARER, 7, 1, 1, 0);
        lie(8, NEARER, 1, 6, 2, 7);
        lie(7, NEARER, 0, 3, 2, 2);
        lie(7, NEARER, 0, 4, 2, 5);
        lie(7, NEARER, 6, 2, 1, 0);
        lie(7, NEARER, 6, 3, 1, 5);
        lie(3, NEARER, 0, 2, 1, 2);
        lie(3, NEARER, 2, 0, 1, 0);
    }

    private static void nearerStops() {
        Check.sentence("NEARER ..; it stops at his SEAT");
        lie(8, NEARER, 0, 3, 3, 3);
        lie(8, NEARER, 0, 3, 4, 3);
        lie(8, NEARER, 0, 5, 3, 5);
        lie(8, NEARER, 0, 5, 4, 5);
        lie(8, NEARER, 7, 0, 1, 0);
        lie(8, NEARER, 7, 0, 4, 0);
        lie(8, NEARER, 0, 7, 4, 7);
        lie(3, NEARER, 1, 0, 4, 0);
    }

    private static void alikeWaysGoUp() {
        Check.sentence("the shorter way (up in numbers, round, if both are alike)");
        for (int n = 4; n <= 8; n += 2) {
            for (int salt = 0; salt < n; salt++) {
                int across = (salt + n / 2) % n;
                lie(n, NEARER, salt, across, 1, (salt + 1) % n);
                lie(n, ONE, salt, across, 1, (salt + 1) % n);
                lie(n, PAST, salt, across, 1, (salt + 2) % n);
            }
        }
        lie(7, NEARER, 5, 1, 1, 6);
        lie(7, NEARER, 5, 2, 1, 4);
    }

    private static void round() {
        Check.sentence("ROUND by as many, always up in numbers, round");
        lie(8, ROUND, 0, 7, 1, 1);
        lie(8, ROUND, 0, 7, 4, 4);
        lie(8, ROUND, 1, 0, 4, 5);
        lie(8, ROUND, 6, 5, 3, 1);
        lie(8, ROUND, 7, 6, 1, 0);
        lie(3, ROUND, 2, 1, 1, 0);
    }

    private static void roundStops() {
        Check.sentence("ROUND ..; it stops at his SEAT");
        lie(8, ROUND, 0, 4, 4, 4);
        lie(8, ROUND, 0, 3, 4, 3);
        lie(8, ROUND, 6, 1, 3, 1);
        lie(8, ROUND, 6, 1, 4, 1);
        lie(8, ROUND, 7, 0, 4, 0);
        lie(3, ROUND, 2, 1, 4, 1);
    }

    private static void one() {
        Check.sentence("ONE by one, the shorter way");
        lie(8, ONE, 0, 3, 4, 1);
        lie(8, ONE, 0, 5, 4, 7);
        lie(8, ONE, 7, 2, 4, 0);
        lie(8, ONE, 0, 1, 4, 1);
        lie(8, ONE, 0, 7, 1, 7);
        lie(7, ONE, 6, 0, 4, 0);
    }

    private static void past() {
        Check.sentence("PAST by one more than it counts, the shorter way, on beyond his SEAT, if it comes so far");
        lie(8, PAST, 0, 3, 1, 2);
        lie(8, PAST, 0, 3, 2, 3);
        lie(8, PAST, 0, 3, 3, 4);
        lie(8, PAST, 0, 5, 1, 6);
        lie(8, PAST, 0, 5, 2, 5);
        lie(8, PAST, 0, 5, 3, 4);
        lie(8, PAST, 6, 0, 4, 3);
        lie(8, PAST, 1, 7, 4, 4);
        lie(3, PAST, 0, 1, 2, 0);
        lie(3, PAST, 0, 2, 2, 0);
        lie(3, PAST, 0, 1, 4, 2);
        lie(3, PAST, 0, 2, 4, 1);
    }

    private static void staysAtHisSeat() {
        Check.sentence("If it is at his SEAT already, it stays (by any LAW)");
        for (int law = 0; law <= 3; law++) {
            for (int weight = 1; weight <= 4; weight++) {
                lie(8, law, 0, 0, weight, 0);
                lie(8, law, 7, 7, weight, 7);
                lie(3, law, 2, 2, weight, 2);
            }
        }
        SaltToLiars beside = Check.laid("g0,5,0;g1,5,0;g0,5,0;t1,1;l3;");
        Check.due("beside a deaf one", beside.say(0, 0, false), 0);
    }

    /** Step by step, as one would move it by hand. */
    private static int walked(int guests, int law, int salt, int liar, int by) {
        if (salt == liar || by == 0) {
            return salt;
        }
        int up = 0;
        for (int seat = salt; seat != liar; seat = seat == guests - 1 ? 0 : seat + 1) {
            up++;
        }
        boolean goesUp = law == ROUND || up <= guests - up;
        int steps = law == ONE ? 1 : law == PAST ? by + 1 : by;
        int seat = salt;
        for (int k = 0; k < steps && (law == PAST || seat != liar); k++) {
            if (goesUp) {
                seat = seat == guests - 1 ? 0 : seat + 1;
            } else {
                seat = seat == 0 ? guests - 1 : seat - 1;
            }
        }
        return seat;
    }

    private static void everyStepRound() {
        Check.sentence("SEAT by SEAT: every number of seats, law, seat of the salt, liar and count");
        for (int guests = 3; guests <= 8; guests++) {
            for (int law = 0; law <= 3; law++) {
                for (int salt = 0; salt < guests; salt++) {
                    everyLie(guests, law, salt, PLAIN, 1);
                    everyLie(guests, law, salt, BISHOP, 2);
                }
            }
        }
    }

    private static void everyLie(int guests, int law, int salt, int kind, int times) {
        SaltToLiars x = Check.laid(Check.alike(guests, kind, law, salt));
        for (int liar = 0; liar < guests; liar++) {
            for (int t = 0; t < 4; t++) {
                String what = liar + " of " + guests + " by law " + law + " from " + salt + " by " + times * (t + 1);
                int want = walked(guests, law, salt, liar, times * (t + 1));
                Check.due(what, x.say(liar, t, false), want);
                Check.due(what + ", counted", x.count(3), want);
                x.undo();
            }
        }
    }

    // ---- by two at once

    private static void twoAtOnce() {
        Check.sentence("By two that count at once it moves as by one alone of him whose counts more, by what it counts more");
        Check.due("4 and 3: by 1", plain(8, NEARER, 0).sayBoth(3, 3, false, 5, 2, false), 1);
        Check.due("3 and 4: by 1", plain(8, NEARER, 0).sayBoth(3, 2, false, 5, 3, false), 7);
        Check.due("4 and 1: by 3", plain(8, NEARER, 0).sayBoth(3, 3, false, 5, 0, false), 3);
        Check.due("round, 4 and 1: by 3", plain(8, ROUND, 6).sayBoth(5, 3, false, 1, 0, false), 1);
        Check.due("one, 4 and 1: by one", plain(8, ONE, 0).sayBoth(3, 3, false, 5, 0, false), 1);
        Check.due("past, 2 and 1: by 2", plain(8, PAST, 0).sayBoth(7, 1, false, 1, 0, false), 6);
        Check.due("he is at his seat: it stays", plain(8, PAST, 7).sayBoth(0, 0, false, 7, 1, false), 7);
        Check.due("only one lies: by all of it", plain(8, NEARER, 0).sayBoth(3, 2, false, 5, 3, true), 3);
        Check.due("only the other one lies", plain(8, NEARER, 0).sayBoth(3, 2, true, 5, 1, false), 6);
    }

    private static void twoAlikeStay() {
        Check.sentence("if both count alike, it stays");
        for (int law = 0; law <= 3; law++) {
            for (int t = 0; t < 4; t++) {
                Check.due("alike by " + (t + 1), plain(8, law, 0).sayBoth(2, t, false, 3, t, false), 0);
            }
        }
        SaltToLiars x = Check.laid("g3,5,0;g0,5,0;g1,5,0;g0,5,0;t1,1;t1,2;a3;");
        Check.due("alike by kind, not by weight; to no deaf one either", x.sayBoth(0, 0, false, 1, 1, false), 3);
        Check.due("untruths", x.count(5), 2);
        SaltToLiars nought = Check.laid("g2,5,0;g4,5,0;g1,5,0;g0,5,0;t1,1;a3;");
        Check.due("alike by 0: none counts, to the deaf one", nought.sayBoth(0, 0, false, 1, 0, false), 2);
    }

    private static void everyTwoAtOnce() {
        Check.sentence("two at once: every number of seats, law, pair and weights");
        for (int guests = 3; guests <= 8; guests++) {
            for (int law = 0; law <= 3; law++) {
                for (int i = 0; i < guests; i++) {
                    everyOther(guests, law, guests - 1, i);
                }
            }
        }
    }

    private static void everyOther(int guests, int law, int salt, int i) {
        SaltToLiars x = plain(guests, law, salt);
        for (int j = 0; j < guests; j++) {
            for (int t = 0; t < 4 && j != i; t++) {
                for (int u = 0; u < 4; u++) {
                    int liar = t > u ? i : j;
                    String what = i + " by " + (t + 1) + ", " + j + " by " + (u + 1) + " of " + guests + " by law " + law;
                    Check.due(what, x.sayBoth(i, t, false, j, u, false), walked(guests, law, salt, liar, Math.abs(t - u)));
                    x.undo();
                }
            }
        }
    }

    // ---- by none

    /** Plain ones, deaf ones where bits are 1. */
    private static SaltToLiars deafAt(int guests, int bits, int law, int salt) {
        StringBuilder text = new StringBuilder();
        for (int i = 0; i < guests; i++) {
            text.append("g").append(bits >> i & 1).append(",5,0;");
        }
        return Check.laid(text + "t1,1;l" + law + ";a" + salt + ";");
    }

    private static void towardTheNearestDeaf() {
        Check.sentence("If none counts, it moves one SEAT, the shorter way, toward the nearest DEAF one ..; it stays, if it is there");
        Check.due("up", deafAt(8, 1 << 3, NEARER, 0).hush(), 1);
        Check.due("down, round", deafAt(8, 1 << 5, NEARER, 0).hush(), 7);
        Check.due("up, round", deafAt(8, 1 << 2, NEARER, 7).hush(), 0);
        Check.due("both ways alike: up", deafAt(8, 1 << 4, NEARER, 0).hush(), 1);
        Check.due("both ways alike: up, round", deafAt(8, 1 << 3, NEARER, 7).hush(), 0);
        Check.due("by one alone, whatever the law", deafAt(8, 1 << 3, PAST, 0).hush(), 1);
        Check.due("down by ROUND, too", deafAt(8, 1 << 5, ROUND, 0).hush(), 7);
        Check.due("to his seat", deafAt(8, 1 << 1, PAST, 0).hush(), 1);
        Check.due("there", deafAt(8, 1 << 1, PAST, 1).hush(), 1);
        Check.due("there, another one beside", deafAt(8, 6, NEARER, 2).hush(), 2);
        Check.due("nobody deaf", deafAt(8, 0, NEARER, 5).hush(), 5);
        Check.due("the nearer of two", deafAt(8, 1 << 3 | 1 << 6, NEARER, 0).hush(), 7);
    }

    private static void ofSeveralDeafTheLowest() {
        Check.sentence("toward the nearest DEAF one .. (of several the lowest)");
        Check.due("1 and 7 from 0", deafAt(8, 1 << 1 | 1 << 7, NEARER, 0).hush(), 1);
        Check.due("0 and 6 from 7", deafAt(8, 1 | 1 << 6, NEARER, 7).hush(), 0);
        Check.due("0 and 2 from 1", deafAt(8, 5, NEARER, 1).hush(), 0);
        Check.due("1 and 5 from 7", deafAt(8, 1 << 1 | 1 << 5, NEARER, 7).hush(), 0);
        Check.due("0 and 2 of 3 from 1", deafAt(3, 5, NEARER, 1).hush(), 0);
        Check.due("1 and 2 of 3 from 0", deafAt(3, 6, NEARER, 0).hush(), 1);
    }

    private static void deafWhoSpeakDoNotDraw() {
        Check.sentence("toward the nearest DEAF one of those who did not speak .., if there is any");
        Check.due("he speaks", deafAt(5, 1 << 1, NEARER, 0).say(1, 0, true), 0);
        Check.due("another one speaks", deafAt(5, 1 << 1, NEARER, 0).say(2, 0, true), 1);
        Check.due("the nearest one speaks", deafAt(8, 1 << 1 | 1 << 6, NEARER, 0).say(1, 0, true), 7);
        Check.due("he is there and speaks", deafAt(8, 1 << 1 | 1 << 6, NEARER, 1).say(1, 0, true), 0);
        Check.due("both speak", deafAt(5, 3, NEARER, 3).sayBoth(0, 0, true, 1, 0, true), 3);
        Check.due("the other one of two speaks", deafAt(5, 3, NEARER, 3).sayBoth(2, 0, true, 0, 0, true), 2);
        Check.due("the first one of two speaks", deafAt(5, 3, NEARER, 4).sayBoth(0, 0, true, 2, 0, true), 0);
        SaltToLiars again = deafAt(5, 1 << 1, NEARER, 3);
        again.say(1, 0, true);
        Check.due("he spoke a round ago", again.hush(), 2);
    }

    private static int drawn(int guests, int bits, int salt, int speaker) {
        for (int far = 0; far <= guests / 2; far++) {
            for (int i = 0; i < guests; i++) {
                int gap = Math.min(Math.floorMod(i - salt, guests), Math.floorMod(salt - i, guests));
                if ((bits >> i & 1) == 1 && i != speaker && gap == far) {
                    return walked(guests, ONE, salt, i, 1);
                }
            }
        }
        return salt;
    }

    private static void everyDeafRound() {
        Check.sentence("if none counts: every number of seats, set of deaf ones, seat of the salt and speaker");
        for (int guests = 3; guests <= 8; guests++) {
            for (int bits = 0; bits < 1 << guests; bits++) {
                for (int salt = 0; salt < guests; salt++) {
                    SaltToLiars x = deafAt(guests, bits, (bits + salt) % 4, salt);
                    Check.due("hush " + guests + " " + bits + " " + salt, x.hush(), drawn(guests, bits, salt, -1));
                    x.undo();
                    for (int i = 0; i < guests; i++) {
                        Check.due("say " + i, x.say(i, 0, true), drawn(guests, bits, salt, i));
                        x.undo();
                    }
                }
            }
        }
    }

    // ---- which calls are refused

    private static void sayBad() {
        Check.sentence("Promise 9: One says of a THING .. BAD");
        for (int guests = 3; guests <= 8; guests++) {
            int things = guests - 2;
            SaltToLiars x = Check.laid("g0,5,0;".repeat(guests) + "t1,4;".repeat(things));
            for (int i : Check.outside(0, guests - 1)) {
                Check.due("guest " + i, x.say(i, 0, false), Check.BAD);
            }
            for (int t : Check.outside(0, things - 1)) {
                Check.due("thing " + t, x.say(1, t, false), Check.BAD);
                Check.due("neither", x.say(guests, t, true), Check.BAD);
            }
            Check.due("no round", x.count(4), 0);
            Check.due("the last ones", x.say(guests - 1, things - 1, false), guests - 1);
        }
    }

    private static void sayBothBad() {
        Check.sentence("Promise 10: Two say something at once .. BAD (alike, too)");
        for (int guests = 3; guests <= 8; guests++) {
            int things = guests - 2;
            SaltToLiars x = Check.laid("g0,5,0;".repeat(guests) + "t1,4;".repeat(things));
            for (int i : Check.outside(0, guests - 1)) {
                Check.due("first guest " + i, x.sayBoth(i, 0, false, 1, 0, true), Check.BAD);
                Check.due("other guest " + i, x.sayBoth(1, 0, false, i, 0, true), Check.BAD);
                Check.due("both " + i, x.sayBoth(i, 0, false, i, 0, true), Check.BAD);
            }
            for (int t : Check.outside(0, things - 1)) {
                Check.due("first thing " + t, x.sayBoth(0, t, false, 1, 0, true), Check.BAD);
                Check.due("other thing " + t, x.sayBoth(0, 0, false, 1, t, true), Check.BAD);
            }
            for (int i = 0; i < guests; i++) {
                Check.due("alike " + i, x.sayBoth(i, 0, false, i, things - 1, true), Check.BAD);
            }
            Check.due("no round", x.count(4), 0);
            Check.due("the last ones", x.sayBoth(guests - 2, things - 1, true, guests - 1, things - 1, false), guests - 1);
        }
    }

    private static void bothMayNameOneThing() {
        Check.sentence("Two say something at once: of one and the same THING, too");
        SaltToLiars x = plain(8, NEARER, 0);
        Check.due("one says so, the other one not", x.sayBoth(3, 3, true, 5, 3, false), 5);
        Check.due("untruths", x.count(5), 1);
        Check.due("spoke", x.went(0, 2), 2);
    }

    // ---- undone, went

    private static void lastEightUndone() {
        Check.sentence("UNDONE is the latest ROUND (the last 8 can be)");
        for (int rounds = 0; rounds <= 30; rounds++) {
            SaltToLiars x = plain(8, ONE, 0);
            for (int k = 1; k <= rounds; k++) {
                Check.due("one step each", x.say((k + 1) % 8, 3, false), k % 8);
            }
            int can = Math.min(rounds, 8);
            Check.due("that can be undone of " + rounds, x.count(7), can);
            for (int left = can - 1; left >= 0; left--) {
                Check.due("undo of " + rounds, x.undo(), left);
                Check.due("salt", x.count(3), (rounds - can + left) % 8);
                Check.due("rounds", x.count(4), rounds - can + left);
            }
            Check.due("undo of one more", x.undo(), Check.NO);
            Check.due("rounds left", x.count(4), rounds - can);
            Check.due("salt left", x.count(3), (rounds - can) % 8);
        }
    }

    private static void undoneIsTheLatest() {
        Check.sentence("UNDONE: how many more can be");
        SaltToLiars x = plain(8, NEARER, 0);
        for (int k = 0; k < 9; k++) {
            x.hush();
        }
        Check.due("undo", x.undo(), 7);
        Check.due("undo", x.undo(), 6);
        x.say(3, 2, false);
        Check.due("one more can be", x.count(7), 7);
        x.sayBoth(7, 3, false, 6, 2, false);
        Check.due("eight can be", x.count(7), 8);
        x.hush();
        Check.due("no more than eight", x.count(7), 8);
        Check.due("undo of a hush", x.undo(), 7);
        Check.due("salt", x.count(3), 4);
        Check.due("undo of two at once", x.undo(), 6);
        Check.due("salt", x.count(3), 3);
        Check.due("lied of the one", x.guest(7, 3), 0);
        Check.due("lied of the other one", x.guest(6, 3), 0);
        Check.due("undo of one", x.undo(), 5);
        Check.due("salt", x.count(3), 0);
        Check.due("trail", x.trail(), 1);
        Check.due("untruths", x.count(5), 0);
    }

    private static void nothingToUndo() {
        Check.sentence("Promise 12: UNDONE .. NO");
        SaltToLiars x = new SaltToLiars();
        Check.due("at first", x.undo(), Check.NO);
        x.say(9, 9, true);
        Check.due("behind a round that was refused", x.undo(), Check.NO);
        x.hush();
        Check.due("undo", x.undo(), 0);
        Check.due("once more", x.undo(), Check.NO);
        x.hush();
        x.keep();
        x.back();
        Check.due("behind back", x.undo(), Check.NO);
        Check.due("rounds", x.count(4), 1);
    }

    private static void lastTenWent() {
        Check.sentence("WENT are ROUNDS (the last 10)");
        for (int rounds = 0; rounds <= 40; rounds++) {
            SaltToLiars x = plain(7, ONE, 0);
            for (int k = 1; k <= rounds; k++) {
                x.say((k + 1) % 7, 3, false);
            }
            int told = Math.min(rounds, 10);
            for (int k = 0; k < told; k++) {
                Check.due("from, " + k + " of " + rounds, x.went(k, 0), (rounds - 1 - k) % 7);
                Check.due("to, " + k + " of " + rounds, x.went(k, 1), (rounds - k) % 7);
                Check.due("spoke", x.went(k, 2), 1);
            }
            Check.due("one more than went", x.went(told, 0), Check.BAD);
        }
    }

    private static void wentBehindUndone() {
        Check.sentence("WENT, the latest ROUND 0: behind those that are UNDONE, too");
        for (int rounds = 8; rounds <= 40; rounds++) {
            SaltToLiars x = plain(7, ONE, 0);
            for (int k = 1; k <= rounds; k++) {
                x.say((k + 1) % 7, 3, false);
            }
            for (int k = 0; k < 8; k++) {
                x.undo();
            }
            int left = rounds - 8;
            int told = Math.min(left, 10);
            for (int k = 0; k < told; k++) {
                Check.due("from, " + k + " of " + left, x.went(k, 0), (left - 1 - k) % 7);
                Check.due("to, " + k + " of " + left, x.went(k, 1), (left - k) % 7);
            }
            Check.due("one more than went", x.went(told, 0), Check.BAD);
        }
    }

    private static void wentBad() {
        Check.sentence("Promise 13: from (what = 0), to (1), how many spoke (2). BAD");
        SaltToLiars x = plain(8, NEARER, 0);
        Check.due("no round yet", x.went(0, 0), Check.BAD);
        x.hush();
        x.say(1, 0, false);
        x.sayBoth(1, 0, true, 2, 1, false);
        int[][] want = {{1, 2, 2}, {0, 1, 1}, {0, 0, 0}};
        for (int k = 0; k < 3; k++) {
            for (int what = 0; what < 3; what++) {
                Check.due("went " + k + " " + what, x.went(k, what), want[k][what]);
            }
        }
        for (int k : Check.outside(0, 2)) {
            Check.due("went " + k, x.went(k, 0), Check.BAD);
        }
        for (int what : Check.outside(0, 2)) {
            Check.due("what " + what, x.went(0, what), Check.BAD);
            Check.due("neither", x.went(3, what), Check.BAD);
        }
        for (int k = 0; k < 20; k++) {
            x.hush();
        }
        Check.due("the tenth", x.went(9, 0), 2);
        for (int k : Check.outside(0, 9)) {
            Check.due("went " + k + " of many", x.went(k, 0), Check.BAD);
        }
    }

    // ---- lied, trail, and what many rounds add up to

    private static void liedWhetherCountedOrNot() {
        Check.sentence("LIED: how often a GUEST did so far (UNTRUTHS, whether they count or not)");
        SaltToLiars x = Check.laid("g2,5,0;g4,5,0;g0,5,0;t1,1;t0,2;");
        x.say(0, 0, false);
        x.say(1, 0, false);
        x.say(2, 0, false);
        x.say(2, 0, false);
        x.say(2, 0, true);
        x.sayBoth(0, 0, false, 1, 1, true);
        x.sayBoth(0, 1, false, 2, 1, false);
        x.hush();
        Check.due("the child", x.guest(0, 3), 2);
        Check.due("the friend", x.guest(1, 3), 2);
        Check.due("at his seat, too", x.guest(2, 3), 2);
        Check.due("all", x.count(5), 6);
    }

    private static void trailOfEnds() {
        Check.sentence("TRAIL: the SEATS (bits) at which the salt was at the end of any ROUND or at first");
        for (int n = 3; n <= 8; n++) {
            SaltToLiars x = plain(n, ROUND, n - 1);
            Check.due("at first", x.trail(), 1 << n - 1);
            Check.due("three by one round", x.say(2, 2, false), 2);
            Check.due("ends alone, not what it went by", x.trail(), 1 << n - 1 | 4);
            for (int seat = 0; seat < n; seat++) {
                while (x.count(3) != seat) {
                    x.say(seat, 3, false);
                }
            }
            Check.due("every seat of " + n, x.trail(), (1 << n) - 1);
        }
        SaltToLiars old = plain(8, NEARER, 7);
        for (int k = 0; k < 30; k++) {
            old.say(k == 0 ? 0 : 1, 0, false);
        }
        Check.due("long ago, too", old.trail(), 1 << 7 | 1 | 2);
        old.say(4, 3, false);
        Check.due("one more", old.trail(), 1 << 7 | 1 | 2 | 16);
        old.undo();
        Check.due("undone", old.trail(), 1 << 7 | 1 | 2);
    }

    private static void manyRounds() {
        Check.sentence("An object is used for at most 512 calls after it has been made");
        SaltToLiars x = new SaltToLiars();
        for (int k = 0; k < 500; k++) {
            x.sayBoth(0, 0, false, 3, 1, true);
        }
        Check.due("rounds", x.count(4), 500);
        Check.due("untruths", x.count(5), 1000);
        Check.due("lied", x.guest(3, 3), 500);
        Check.due("can be undone", x.count(7), 8);
        Check.due("undo", x.undo(), 7);
        Check.due("untruths then", x.count(5), 998);
        Check.due("the tenth", x.went(9, 2), 2);
        Check.due("laws", x.laws(), 15);
        // it stayed, as both counted alike by 2: thing 0 is so, thing 1 is not
        Check.due("fits", x.fits(0), 4);
        Check.due("keep", x.keep(), 1);
        Check.due("back", x.back(), 0);
        Check.due("the 512th call", x.count(4), 499);
    }
}
