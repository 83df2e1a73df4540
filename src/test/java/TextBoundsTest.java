/** Each sentence on THE TEXT and on tables that names a bound (promises 1 to 8), by a test of its own. */
public final class TextBoundsTest {
    private static final String THREE = "g0,5,0;g0,5,0;g0,5,0;";
    private static final String THREE_AND_THING = THREE + "t0,1;";
    private static final String FIRST = "g0,7,3;g1,9,0;g2,10,5;g3,5,15;g4,8,9;t1,2;t0,1;t1,3;t0,4;a2;";
    // 8 guests, 6 things, and items that fill it up to the last letter
    private static final String OF_200 = "g4,10,63;".repeat(8) + "t1,4;".repeat(6) + "l3;".repeat(29) + "a7;" + "l02;a06;";

    public static void main(String[] args) {
        newObjectIsTheFirstTable();
        newObjectHasNoText();
        lettersOfText();
        fullTextIsReadToItsEnd();
        lettersOfAscii();
        wipedTextIsEmpty();
        lettersOfItems();
        figuresOfNumbers();
        howManyNumbers();
        partedAndEnded();
        kinds();
        honesties();
        knowledge();
        guestsAtMost();
        seatsRound();
        truths();
        weights();
        thingsAtMost();
        laws();
        lawWithout();
        lastLawCounts();
        starts();
        startWithout();
        lastStartCounts();
        firstFault();
        faultPlaceFromNought();
        noFault();
        leastGuestsAndThings();
        startThatThereIs();
        faultIsNotLaid();
        laidAnew();
        textStays();
        guestBad();
        thingBad();
        weightBad();
        Check.finish();
    }

    // ---- promise 1

    private static void newObjectIsTheFirstTable() {
        Check.sentence("at first g0,7,3;g1,9,0;g2,10,5;g3,5,15;g4,8,9;t1,2;t0,1;t1,3;t0,4;a2;");
        SaltToLiars x = new SaltToLiars();
        SaltToLiars same = Check.laid(FIRST);
        for (int k = 0; k < 9; k++) {
            Check.due("count " + k, x.count(k), same.count(k));
        }
        for (int i = 0; i < 6; i++) {
            for (int what = 0; what < 6; what++) {
                Check.due("guest " + i + " " + what, x.guest(i, what), same.guest(i, what));
            }
        }
        for (int t = 0; t < 5; t++) {
            Check.due("thing " + t, x.thing(t, 0), same.thing(t, 0));
            Check.due("weight of " + t, x.thing(t, 1), same.thing(t, 1));
        }
        Check.due("trail", x.trail(), 4);
        Check.due("last guest", x.guest(4, 2), 9);
        Check.due("guest behind the last one", x.guest(5, 0), Check.BAD);
        Check.due("last thing", x.thing(3, 1), 4);
        Check.due("thing behind the last one", x.thing(4, 1), Check.BAD);
    }

    private static void newObjectHasNoText() {
        Check.sentence("Promise 1: THE TEXT is empty");
        SaltToLiars x = new SaltToLiars();
        Check.due("letters", x.count(9), 0);
        Check.due("fault", x.fault(), Check.NONE);
        Check.due("lay", x.lay(), Check.NO);
        Check.due("write", x.write('g'), 1);
        Check.due("another object has a text of its own", new SaltToLiars().count(9), 0);
    }

    // ---- promises 2 and 3

    private static void lettersOfText() {
        Check.sentence("A TEXT is letters (200 at most)");
        SaltToLiars x = new SaltToLiars();
        for (int k = 1; k <= 200; k++) {
            Check.due("write of the " + k + "th", x.write('l'), k);
        }
        Check.due("letters", x.count(9), 200);
        Check.due("write of the 201st", x.write('l'), Check.FULL);
        Check.due("write of the 201st again", x.write(126), Check.FULL);
        Check.due("letters still", x.count(9), 200);
        Check.due("wipe", x.wipe(), 200);
        Check.due("write behind wipe", x.write('l'), 1);
    }

    private static void fullTextIsReadToItsEnd() {
        Check.sentence("A TEXT is letters (200 at most), ITEMS one behind the other");
        Check.due("letters of the text that is tried", OF_200.length(), 200);
        SaltToLiars x = Check.laid(OF_200);
        Check.due("one letter more", x.write(';'), Check.FULL);
        Check.due("fault", x.fault(), Check.NONE);
        Check.due("guests", x.count(0), 8);
        Check.due("things", x.count(1), 6);
        Check.due("law, by the last item but one", x.count(2), 2);
        Check.due("salt, by the last item", x.count(3), 6);
        Check.faultDue(OF_200.substring(0, 199), 196);
        Check.faultDue(OF_200.substring(0, 199) + "0", 196);
        Check.faultDue(OF_200.substring(0, 196) + "a08;", 196);
        Check.faultDue("l0;".repeat(65) + "l00;" + "x", 199);
        Check.faultDue("l0;".repeat(66) + "l0", 198);
    }

    private static void lettersOfAscii() {
        Check.sentence("Promise 2: A letter (32 to 126, as in ASCII)");
        SaltToLiars x = new SaltToLiars();
        for (int letter = 32; letter <= 126; letter++) {
            Check.due("write " + letter, x.write(letter), letter - 31);
        }
        for (int letter : Check.outside(32, 126)) {
            Check.due("write " + letter, x.write(letter), Check.BAD);
        }
        for (int letter = 0; letter < 32; letter++) {
            Check.due("write " + letter, x.write(letter), Check.BAD);
        }
        Check.due("letters", x.count(9), 95);
    }

    private static void wipedTextIsEmpty() {
        Check.sentence("Promise 3: THE TEXT is empty: how long it was");
        SaltToLiars x = new SaltToLiars();
        Check.due("wipe of none", x.wipe(), 0);
        x.write('x');
        Check.due("wipe of one", x.wipe(), 1);
        Check.due("wipe again", x.wipe(), 0);
        Check.due("fault of none", x.fault(), Check.NONE);
        Check.due("lay of none", x.lay(), Check.NO);
        Check.write(x, OF_200);
        Check.due("wipe of 200", x.wipe(), 200);
        Check.due("letters", x.count(9), 0);
        Check.write(x, "l0;");
        Check.due("nothing of the old one behind the new one", x.fault(), Check.NONE);
    }

    // ---- promise 4: what an item is

    private static void lettersOfItems() {
        Check.sentence("ITEMS .. each a letter: g, t, l, a");
        for (char letter = 32; letter <= 126; letter++) {
            Check.faultDue(letter + "0,1,1;", letter == 'g' ? Check.NONE : 0);
            Check.faultDue(letter + "0,1;", letter == 't' ? Check.NONE : 0);
            Check.faultDue(letter + "1;", letter == 'l' || letter == 'a' ? Check.NONE : 0);
            Check.faultDue("l1;" + letter, 3);
        }
    }

    /** Items with a number left out: what stands ahead of it, what stands behind it. */
    private static final String[][] GAPS = {{"g", ",1,1;"}, {"g1,", ",1;"}, {"g1,1,", ";"}, {"t", ",1;"}, {"t1,", ";"},
        {"l", ";"}, {"a", ";"}};

    private static void figuresOfNumbers() {
        Check.sentence("numbers (one or two figures)");
        for (String[] gap : GAPS) {
            for (String right : new String[] {"1", "01"}) {
                Check.faultDue(gap[0] + right + gap[1], Check.NONE);
            }
            for (String not : new String[] {"", "001", "000", "100", "0000000001", "+1", "-1", "-0", " 1", "1 ", "1.", "x",
                "/", ":", "1/", "1:", "/1", ":1", "o", "1e", ",1", "1,", "1;"}) {
                Check.faultDue(gap[0] + not + gap[1], "1;".equals(not) && gap[1].equals(";") ? gap[0].length() + 2 : 0);
            }
        }
        SaltToLiars x = Check.laid("g04,09,08;g00,00,00;g01,10,63;t01,04;t00,01;l03;a02;");
        Check.due("04", x.guest(0, 0), 4);
        Check.due("09", x.guest(0, 1), 9);
        Check.due("08", x.guest(0, 2), 8);
        Check.due("63", x.guest(2, 2), 63);
        Check.due("weight 04", x.thing(0, 1), 4);
        Check.due("law 03", x.count(2), 3);
        Check.due("salt 02", x.count(3), 2);
    }

    private static void howManyNumbers() {
        Check.sentence("gK,H,S .. tV,W .. lL .. aA: as many numbers as told");
        char[] letters = {'g', 't', 'l', 'a'};
        int[] many = {3, 2, 1, 1};
        for (int k = 0; k < letters.length; k++) {
            Check.faultDue(letters[k] + ";", 0);
            for (int n = 1; n < 6; n++) {
                Check.faultDue(letters[k] + "1,".repeat(n - 1) + "1;", n == many[k] ? Check.NONE : 0);
            }
        }
    }

    private static void partedAndEnded() {
        Check.sentence("numbers .. parted by , and a ; behind the last one");
        for (char sign = 32; sign <= 126; sign++) {
            int parted = sign == ',' ? Check.NONE : 0;
            int ended = sign == ';' ? Check.NONE : 0;
            Check.faultDue("g1" + sign + "1,1;", parted);
            Check.faultDue("g1,1" + sign + "1;", parted);
            Check.faultDue("t1" + sign + "1;", parted);
            Check.faultDue("g1,1,1" + sign, ended);
            Check.faultDue("t1,1" + sign, ended);
            Check.faultDue("l1" + sign, ended);
            Check.faultDue("a1" + sign, ended);
            Check.faultDue("a1" + sign + "l1;", ended);
        }
        for (String cut : new String[] {"g", "g1", "g1,", "g1,1", "g1,1,", "g1,1,1", "g1,1,11", "t", "t1", "t1,", "t1,1", "l",
            "l1", "l01", "a", "a1", "a01"}) {
            Check.faultDue(cut, 0);
            Check.faultDue("t1,4;" + cut, 5);
        }
        Check.faultDue("l1;;", 3);
        Check.faultDue("l1; ", 3);
        Check.faultDue(";", 0);
    }

    // ---- promise 4: the bounds of numbers

    /** Every number of one or two figures: those from first to last are right, all others are not. */
    private static void range(String ahead, String behind, int first, int last) {
        for (int number = 0; number <= 99; number++) {
            boolean right = number >= first && number <= last;
            Check.faultDue(ahead + number + behind, right ? Check.NONE : 0);
            Check.faultDue("l1;" + ahead + number + behind + "a1;", right ? Check.NONE : 3);
        }
    }

    private static void kinds() {
        Check.sentence("KIND K (0 PLAIN, 1 DEAF, 2 CHILD, 3 BISHOP, 4 FRIEND)");
        range("g", ",5,5;", 0, 4);
        for (int kind = 0; kind <= 4; kind++) {
            SaltToLiars x = Check.laid("g0,5,0;g0,5,0;g" + kind + ",5,0;t0,1;");
            Check.due("kind", x.guest(2, 0), kind);
            Check.due("kind of the one ahead", x.guest(1, 0), 0);
        }
    }

    private static void honesties() {
        Check.sentence("who says what is so by H (0 to 10) of ten");
        range("g0,", ",5;", 0, 10);
        for (int honesty = 0; honesty <= 10; honesty++) {
            Check.due("H", Check.laid("g0," + honesty + ",0;g0,5,0;g0,5,0;t0,1;").guest(0, 1), honesty);
        }
    }

    private static void knowledge() {
        Check.sentence("knows THINGS S (0 to 63, as bits)");
        range("g0,5,", ";", 0, 63);
        for (int known = 0; known <= 63; known++) {
            Check.due("S", Check.laid("g0,5,0;g0,5," + known + ";g0,5,0;t0,1;").guest(1, 2), known);
        }
    }

    private static void guestsAtMost() {
        Check.sentence("a GUEST ..; 8 at most");
        for (int n = 0; n <= 10; n++) {
            Check.faultDue("g0,5,0;".repeat(n), n <= 8 ? Check.NONE : 56);
            Check.faultDue("g0,5,0;l0;".repeat(n) + "t0,1;", n <= 8 ? Check.NONE : 80);
        }
        Check.faultDue("g0,5,0;".repeat(8) + "t0,1;g0,5,0;", 61);
        Check.due("lay of 9", Check.written("g0,5,0;".repeat(9) + "t0,1;").lay(), Check.NO);
        SaltToLiars x = Check.laid("g0,5,0;".repeat(7) + "g4,9,8;t0,1;");
        Check.due("the 8th", x.guest(7, 0), 4);
        Check.due("the 9th", x.guest(8, 0), Check.BAD);
    }

    private static void seatsRound() {
        Check.sentence("at SEATS 0, 1, .. round; how far the salt is from him, the shorter way");
        for (int n = 3; n <= 8; n++) {
            for (int salt = 0; salt < n; salt++) {
                SaltToLiars x = Check.laid("t0,1;a" + salt + ";" + "g0,5,0;".repeat(n));
                int up = 0;
                for (int step = 0; step < n; step++) {
                    int seat = (salt + step) % n;
                    Check.due("seat " + seat + " of " + n + " from " + salt, x.guest(seat, 4), step <= n / 2 ? up++ : n - step);
                }
            }
        }
        SaltToLiars first = Check.laid("g0,1,0;t1,1;g1,2,0;t0,2;g2,3,0;");
        for (int i = 0; i < 3; i++) {
            Check.due("guests in the order of the text", first.guest(i, 1), i + 1);
        }
        Check.due("things in the order of the text", first.thing(1, 1), 2);
    }

    private static void truths() {
        Check.sentence("a THING that is so (V 1) or not (0)");
        range("t", ",1;", 0, 1);
        for (int ways = 0; ways < 64; ways++) {
            StringBuilder text = new StringBuilder(THREE);
            for (int t = 0; t < 6; t++) {
                text.append("t").append(ways >> t & 1).append(",1;");
            }
            SaltToLiars x = Check.laid(text.toString());
            for (int t = 0; t < 6; t++) {
                Check.due("thing " + t + " of " + ways, x.thing(t, 0), ways >> t & 1);
            }
        }
        SaltToLiars again = Check.laid(THREE + "t1,1;".repeat(6));
        Check.due("laid again", again.lay(), 3);
        Check.write(again, THREE + "t0,1;".repeat(6));
        for (int k = 0; k < 2; k++) {
            Check.due("laid otherwise", again.lay(), 3);
            for (int t = 0; t < 6; t++) {
                Check.due("thing " + t + " that was so ahead", again.thing(t, 0), 0);
            }
        }
    }

    private static void weights() {
        Check.sentence("of WEIGHT W (1 to 4)");
        range("t0,", ";", 1, 4);
        range("t1,", ";", 1, 4);
        for (int weight = 1; weight <= 4; weight++) {
            Check.due("weight", Check.laid(THREE + "t0,1;t1," + weight + ";").thing(1, 1), weight);
        }
    }

    private static void thingsAtMost() {
        Check.sentence("a THING ..; 6 at most, 0, 1, ..");
        for (int n = 0; n <= 8; n++) {
            Check.faultDue("t1,1;".repeat(n), n <= 6 ? Check.NONE : 30);
            Check.faultDue("t1,1;a0;".repeat(n) + "l0;", n <= 6 ? Check.NONE : 48);
        }
        Check.due("lay of 7", Check.written(THREE + "t0,1;".repeat(7)).lay(), Check.NO);
        SaltToLiars x = Check.laid(THREE + "t0,1;".repeat(5) + "t1,4;");
        Check.due("the 6th", x.thing(5, 1), 4);
        Check.due("the 7th", x.thing(6, 1), Check.BAD);
    }

    private static void laws() {
        Check.sentence("lL the LAW: 0 NEARER, 1 ROUND, 2 ONE, 3 PAST");
        range("l", ";", 0, 3);
        for (int law = 0; law <= 3; law++) {
            Check.due("law", Check.laid(THREE_AND_THING + "l" + law + ";").count(2), law);
        }
    }

    private static void lawWithout() {
        Check.sentence("LAW .. (0 without ..)");
        SaltToLiars x = Check.laid(THREE_AND_THING + "l3;");
        Check.due("laid again", x.lay(), 3);
        Check.due("law with", x.count(2), 3);
        Check.write(x, THREE_AND_THING);
        Check.due("lay without", x.lay(), 3);
        Check.due("law without", x.count(2), 0);
    }

    private static void lastLawCounts() {
        Check.sentence("LAW .. (.. of several such the last one counts)");
        for (int first = 0; first <= 3; first++) {
            for (int last = 0; last <= 3; last++) {
                String both = "l" + first + ";" + THREE_AND_THING + "l" + last + ";";
                Check.due("law of " + both, Check.laid(both).count(2), last);
            }
        }
        Check.faultDue("l4;l0;", 0);
    }

    private static void starts() {
        Check.sentence("aA the salt is at SEAT A (0 to 7) at first");
        range("a", ";", 0, 7);
        for (int salt = 0; salt <= 7; salt++) {
            SaltToLiars x = Check.laid("g0,5,0;".repeat(8) + "t0,1;a" + salt + ";");
            Check.due("salt", x.count(3), salt);
            Check.due("trail", x.trail(), 1 << salt);
        }
    }

    private static void startWithout() {
        Check.sentence("the salt is at SEAT A .. (0 without ..)");
        SaltToLiars x = Check.laid(THREE_AND_THING + "a2;");
        Check.due("laid again", x.lay(), 3);
        Check.due("salt with", x.count(3), 2);
        Check.write(x, THREE_AND_THING);
        Check.due("lay without", x.lay(), 3);
        Check.due("salt without", x.count(3), 0);
    }

    private static void lastStartCounts() {
        Check.sentence("the salt is at SEAT A .. (.. of several such the last one counts)");
        for (int first = 0; first <= 7; first++) {
            for (int last = 0; last <= 7; last++) {
                SaltToLiars x = Check.written("a" + first + ";" + THREE_AND_THING + "a" + last + ";");
                Check.due("fault of a" + first + " and a" + last, x.fault(), Check.NONE);
                Check.due("lay of a" + first + " and a" + last, x.lay(), last < 3 ? 3 : Check.NO);
                Check.due("salt of a" + first + " and a" + last, x.count(3), last < 3 ? last : 2);
            }
        }
        Check.faultDue("a8;a0;", 0);
    }

    // ---- promise 4: the fault

    private static void firstFault() {
        Check.sentence("FAULT: the place of the first letter of the first ITEM that is not so");
        Check.faultDue("l4;l5;", 0);
        Check.faultDue("l3;l4;l5;", 3);
        Check.faultDue("l3;a8;l4;", 3);
        Check.faultDue("g0,5,0;g5,5,0;t0,1;t0,0;", 7);
        Check.faultDue("g0,5,0;t0,1;t0,0;g5,5,0;", 12);
        // not the letter at which it shows, but the first one of the item
        Check.faultDue("l0;g0,10,64;", 3);
        Check.faultDue("l0;g0,10,63", 3);
        Check.faultDue("l0;g0,10,6x;", 3);
    }

    private static void faultPlaceFromNought() {
        Check.sentence("FAULT: the place (from 0 on)");
        for (int n = 0; n <= 66; n++) {
            Check.faultDue("a3;".repeat(n) + (n < 66 ? "a8;" : "a8"), 3 * n);
        }
    }

    private static void noFault() {
        Check.sentence("Promise 4: FAULT. NONE.");
        Check.faultDue("", Check.NONE);
        Check.faultDue(FIRST, Check.NONE);
        Check.faultDue("a7;", Check.NONE);
        Check.faultDue("g0,0,0;", Check.NONE);
        Check.faultDue("t0,1;", Check.NONE);
    }

    // ---- promise 5

    private static void leastGuestsAndThings() {
        Check.sentence("LAID is a TEXT .. of 3 GUESTS and a THING at least");
        for (int guests = 0; guests <= 8; guests++) {
            for (int things = 0; things <= 6; things++) {
                SaltToLiars x = Check.written("t0,1;".repeat(things) + "g0,5,0;".repeat(guests));
                boolean enough = guests >= 3 && things >= 1;
                Check.due("lay of " + guests + " and " + things, x.lay(), enough ? guests : Check.NO);
                Check.due("guests then", x.count(0), enough ? guests : 5);
                Check.due("things then", x.count(1), enough ? things : 4);
            }
        }
    }

    private static void startThatThereIs() {
        Check.sentence("LAID is a TEXT .. A being a SEAT that there is (NO else)");
        for (int guests = 3; guests <= 8; guests++) {
            for (int salt = 0; salt <= 7; salt++) {
                SaltToLiars x = Check.written("a" + salt + ";t0,1;" + "g0,5,0;".repeat(guests));
                Check.due("fault", x.fault(), Check.NONE);
                Check.due("lay of " + guests + " by " + salt, x.lay(), salt < guests ? guests : Check.NO);
                Check.due("salt", x.count(3), salt < guests ? salt : 2);
            }
        }
    }

    private static void faultIsNotLaid() {
        Check.sentence("LAID is a TEXT without FAULT");
        for (String more : new String[] {"x", "l4;", "l0", "g0,5,0", "t0,0;", "a8;", " ", ";"}) {
            Check.due("lay with " + more, Check.written(THREE_AND_THING + more).lay(), Check.NO);
            Check.due("lay with " + more + " ahead", Check.written(more + THREE_AND_THING).lay(), Check.NO);
        }
    }

    private static void laidAnew() {
        Check.sentence("Promise 5: LAID: no ROUND yet, nothing TOLD, UNDONE, KEPT");
        SaltToLiars x = new SaltToLiars();
        for (int k = 0; k < 11; k++) {
            x.say(3, 3, true);
            x.say(0, 3, true);
        }
        for (int k = 0; k < 8; k++) {
            x.tell(0, true);
        }
        x.keep();
        x.keep();
        Check.write(x, FIRST);
        Check.due("lay", x.lay(), 5);
        int[] counts = {5, 4, 0, 2, 0, 0, 0, 0, 0, FIRST.length()};
        for (int k = 0; k < counts.length; k++) {
            Check.due("count " + k, x.count(k), counts[k]);
        }
        Check.due("went", x.went(0, 0), Check.BAD);
        Check.due("undo", x.undo(), Check.NO);
        Check.due("back", x.back(), Check.NO);
        Check.due("forget", x.forget(), 0);
        Check.due("trail", x.trail(), 4);
        Check.due("lied", x.guest(3, 3) + x.guest(0, 3), 0);
        Check.due("fits", x.fits(0), 16);
        Check.due("laws", x.laws(), 15);
        Check.due("keep", x.keep(), 1);
        Check.due("tell", x.tell(0, true), 1);
    }

    private static void textStays() {
        Check.sentence("Promise 5: THE TEXT stays");
        SaltToLiars x = Check.laid(THREE_AND_THING);
        Check.due("letters", x.count(9), THREE_AND_THING.length());
        Check.due("lay again", x.lay(), 3);
        Check.write(x, THREE_AND_THING + "a3;");
        Check.due("lay that is none", x.lay(), Check.NO);
        Check.due("letters of that one", x.count(9), THREE_AND_THING.length() + 3);
        Check.due("a letter more", x.write('l'), THREE_AND_THING.length() + 4);
    }

    // ---- promises 6 to 8

    private static void guestBad() {
        Check.sentence("Promise 6: Of a GUEST: (what = 0) .. (4). BAD");
        for (int n = 3; n <= 8; n++) {
            SaltToLiars x = Check.laid("g1,5,9;".repeat(n) + "t0,1;");
            for (int what = 0; what <= 4; what++) {
                Check.due("the last guest of " + n, x.guest(n - 1, what), new int[] {1, 5, 9, 0, 1}[what]);
                for (int i : Check.outside(0, n - 1)) {
                    Check.due("guest " + i + " of " + n, x.guest(i, what), Check.BAD);
                }
            }
            for (int what : Check.outside(0, 4)) {
                Check.due("what " + what, x.guest(0, what), Check.BAD);
                Check.due("neither", x.guest(n, what), Check.BAD);
            }
        }
    }

    private static void thingBad() {
        Check.sentence("Promise 7: Of a THING: (what = 0), WEIGHT (1). BAD");
        for (int n = 1; n <= 6; n++) {
            SaltToLiars x = Check.laid(THREE + "t1,3;".repeat(n));
            for (int what = 0; what <= 1; what++) {
                Check.due("the last thing of " + n, x.thing(n - 1, what), new int[] {1, 3}[what]);
                for (int t : Check.outside(0, n - 1)) {
                    Check.due("thing " + t + " of " + n, x.thing(t, what), Check.BAD);
                }
            }
            for (int what : Check.outside(0, 1)) {
                Check.due("what " + what, x.thing(0, what), Check.BAD);
                Check.due("neither", x.thing(n, what), Check.BAD);
            }
        }
    }

    private static void weightBad() {
        Check.sentence("Promise 8: an UNTRUTH of a THING by a GUEST. BAD");
        for (int guests = 3; guests <= 8; guests++) {
            int things = guests - 2;
            SaltToLiars x = Check.laid("g0,5,0;".repeat(guests) + "t1,3;".repeat(things));
            Check.due("the last of both", x.weight(guests - 1, things - 1), 3);
            for (int i : Check.outside(0, guests - 1)) {
                Check.due("guest " + i, x.weight(i, 0), Check.BAD);
            }
            for (int t : Check.outside(0, things - 1)) {
                Check.due("thing " + t, x.weight(0, t), Check.BAD);
                Check.due("neither", x.weight(guests, t), Check.BAD);
            }
        }
    }
}
