import java.util.ArrayList;
import java.util.List;

/**
 * "BAD: a number is none that is told. NO: not as things stand. NONE: there is none. FULL. Of several the first in this
 * order, whatever the order at a call; nothing changes then." Each refused call is made on one of two twins, which must
 * answer alike in everything then.
 */
public final class RefusalTest {
    private static final int BAD = Check.BAD, NO = Check.NO, FULL = Check.FULL, NONE = Check.NONE;

    /** One call of the face. */
    private interface Call {
        long on(SaltToLiars x);
    }

    /** How an object comes to stand as it does. */
    private interface Scene {
        SaltToLiars make();
    }

    public static void main(String[] args) {
        badChangesNothing();
        noChangesNothing();
        noneChangesNothing();
        fullChangesNothing();
        answersChangeNothing();
        badAheadOfFull();
        badAheadOfNone();
        anyNumberMayBeBad();
        Check.finish();
    }

    // ---- scenes

    private static SaltToLiars fresh() {
        return new SaltToLiars();
    }

    /** Rounds of all sorts, some undone, sayings by which neither can be, one kept, a text with a fault behind a whole table. */
    private static SaltToLiars busy() {
        SaltToLiars x = new SaltToLiars();
        for (int k = 0; k < 9; k++) {
            x.say(k % 5, (k + 1) % 4, k % 3 == 0);
            x.sayBoth(k % 5, k % 4, k % 2 == 0, (k + 2) % 5, (k + 1) % 4, k % 3 == 0);
            if (k == 5) {
                x.keep();
            }
        }
        x.hush();
        x.undo();
        x.undo();
        x.tell(2, true);
        x.tell(2, false);
        Check.write(x, "g1,1,1;g1,1,1;g1,1,1;g1,1,1;t1,1;l3;a3;x");
        return x;
    }

    /** THE TEXT, what is told and what is kept are full. */
    private static SaltToLiars full() {
        SaltToLiars x = new SaltToLiars();
        Check.write(x, "g2,10,63;".repeat(8) + "t0,3;".repeat(6) + "l1;".repeat(31) + "a7;" + "l3");
        for (int k = 0; k < 8; k++) {
            x.tell(k % 5, k % 3 == 0);
            x.say(k % 5, k % 4, k % 2 == 0);
            x.keep();
        }
        return x;
    }

    /** Rounds went, but none can be undone, and nothing is kept. */
    private static SaltToLiars wentBack() {
        SaltToLiars x = Check.laid("g3,5,33;".repeat(4) + "g1,4,0;g0,0,1;g4,10,2;g2,6,12;" + "t1,1;t0,2;t1,3;t0,4;t1,1;t0,1;l3;a6;");
        for (int k = 0; k < 12; k++) {
            x.say(k % 8, k % 6, k % 2 == 0);
        }
        x.keep();
        x.hush();
        x.back();
        return x;
    }

    // ---- all that can be seen of an object, up to undoing and going back all the way

    private static List<Long> sight(SaltToLiars x) {
        List<Long> all = new ArrayList<>();
        seeNow(x, all);
        for (int k = 0; k < 9; k++) {
            all.add((long) x.undo());
            seeRound(x, all);
        }
        for (int k = 0; k < 3; k++) {
            all.add((long) x.back());
            seeRound(x, all);
        }
        all.add((long) x.forget());
        all.add((long) x.wipe());
        all.add((long) x.keep());
        all.add((long) x.say(0, 0, false));
        seeRound(x, all);
        return all;
    }

    private static void seeNow(SaltToLiars x, List<Long> all) {
        for (int what = 0; what < 10; what++) {
            all.add((long) x.count(what));
        }
        for (int i = 0; i < x.count(0); i++) {
            for (int what = 0; what < 4; what++) {
                all.add((long) x.guest(i, what));
            }
        }
        for (int t = 0; t < x.count(1); t++) {
            all.add((long) x.thing(t, 0) + 2 * x.thing(t, 1));
        }
        for (int k = 0; k < 10; k++) {
            all.add(x.went(k, 0) + 16L * x.went(k, 1) + 256L * x.went(k, 2));
        }
        all.add((long) x.fits(0));
        all.add((long) x.fits(1));
        all.add((long) x.ask(0));
        all.add((long) x.fewest(0, 3));
        all.add((long) x.rests(0, 0, 1, 0, 1));
        all.add((long) x.dinner(4, 60, 0));
        all.add((long) x.fault());
        all.add(x.believe(0));
        all.add(x.believe(1));
    }

    private static void seeRound(SaltToLiars x, List<Long> all) {
        all.add((long) x.count(3));
        all.add((long) x.count(4));
        all.add((long) x.count(5));
        all.add((long) x.trail());
        all.add((long) x.went(0, 0));
        all.add((long) x.laws());
    }

    private static void changesNothing(String what, Scene scene, Call call, long want) {
        SaltToLiars x = scene.make();
        Check.due(what, call.on(x), want);
        sameAs(what, scene, x);
    }

    private static void sameAs(String what, Scene scene, SaltToLiars x) {
        List<Long> got = sight(x);
        List<Long> due = sight(scene.make());
        Check.due(what + ": how much is seen", got.size(), due.size());
        for (int k = 0; k < due.size() && k < got.size(); k++) {
            Check.due(what + ": sight " + k, got.get(k), due.get(k));
        }
    }

    // ---- refused calls

    private static void badChangesNothing() {
        Check.sentence("BAD: a number is none that is told .. nothing changes then");
        everyBad("fresh", RefusalTest::fresh, 5, 4, 0);
        everyBad("busy", RefusalTest::busy, 5, 4, 10);
        everyBad("full", RefusalTest::full, 5, 4, 8);
        everyBad("went back", RefusalTest::wentBack, 8, 6, 10);
    }

    private static void everyBad(String name, Scene scene, int guests, int things, int went) {
        badGuests(name, scene, guests);
        badThings(name, scene, things);
        badNumbers(name, scene, went);
        badWhats(name, scene);
        badPairs(name, scene);
        for (int set : new int[] {-1, 1 << guests, Check.LOW, Check.HIGH}) {
            changesNothing(name + ": story of " + set, scene, x -> x.story(set, 0), BAD);
        }
    }

    private static void badGuests(String name, Scene scene, int guests) {
        for (int i : new int[] {-1, guests, Check.LOW, Check.HIGH}) {
            String what = name + ": guest " + i + " of ";
            changesNothing(what + "guest", scene, x -> x.guest(i, 0), BAD);
            changesNothing(what + "weight", scene, x -> x.weight(i, 0), BAD);
            changesNothing(what + "say", scene, x -> x.say(i, 0, false), BAD);
            changesNothing(what + "sayBoth, the first", scene, x -> x.sayBoth(i, 0, false, 1, 0, false), BAD);
            changesNothing(what + "sayBoth, the other", scene, x -> x.sayBoth(1, 0, false, i, 0, false), BAD);
            changesNothing(what + "fewest", scene, x -> x.fewest(i, 1), BAD);
            changesNothing(what + "rests, the first", scene, x -> x.rests(i, 0, 1, 0, 0), BAD);
            changesNothing(what + "rests, the other", scene, x -> x.rests(1, 0, i, 0, 0), BAD);
            changesNothing(what + "tell", scene, x -> x.tell(i, true), BAD);
        }
    }

    private static void badThings(String name, Scene scene, int things) {
        for (int t : new int[] {-1, things, Check.LOW, Check.HIGH}) {
            String what = name + ": thing " + t + " of ";
            changesNothing(what + "thing", scene, x -> x.thing(t, 0), BAD);
            changesNothing(what + "weight", scene, x -> x.weight(0, t), BAD);
            changesNothing(what + "say", scene, x -> x.say(0, t, true), BAD);
            changesNothing(what + "sayBoth, the first", scene, x -> x.sayBoth(0, t, true, 1, 0, false), BAD);
            changesNothing(what + "sayBoth, the other", scene, x -> x.sayBoth(1, 0, false, 0, t, true), BAD);
            changesNothing(what + "rests, the first", scene, x -> x.rests(0, t, 1, 0, 0), BAD);
            changesNothing(what + "rests, the other", scene, x -> x.rests(0, 0, 1, t, 0), BAD);
        }
    }

    private static void badNumbers(String name, Scene scene, int went) {
        for (int letter : new int[] {31, 127, -1, Check.LOW, Check.HIGH}) {
            changesNothing(name + ": write " + letter, scene, x -> x.write(letter), BAD);
        }
        for (int k : new int[] {-1, went, Check.LOW, Check.HIGH}) {
            changesNothing(name + ": went " + k, scene, x -> x.went(k, 0), BAD);
        }
        for (int n : new int[] {-1, 7, Check.LOW, Check.HIGH}) {
            changesNothing(name + ": fewest in " + n, scene, x -> x.fewest(0, n), BAD);
        }
        for (int z : new int[] {-1, 10000, Check.LOW, Check.HIGH}) {
            changesNothing(name + ": dinner by " + z, scene, x -> x.dinner(z, 1, 0), BAD);
        }
        for (int n : new int[] {0, 61, Check.LOW, Check.HIGH}) {
            changesNothing(name + ": dinner of " + n, scene, x -> x.dinner(0, n, 0), BAD);
        }
    }

    private static void badWhats(String name, Scene scene) {
        for (int off : new int[] {-1, 0, Check.LOW, Check.HIGH}) {
            String what = name + ": what " + off + " of ";
            changesNothing(what + "guest", scene, x -> x.guest(0, off == 0 ? 5 : off), BAD);
            changesNothing(what + "thing", scene, x -> x.thing(0, off == 0 ? 2 : off), BAD);
            changesNothing(what + "went", scene, x -> x.went(0, off == 0 ? 3 : off), BAD);
            changesNothing(what + "fits", scene, x -> x.fits(off == 0 ? 2 : off), BAD);
            changesNothing(what + "ask", scene, x -> x.ask(off == 0 ? 2 : off), BAD);
            changesNothing(what + "story", scene, x -> x.story(0, off == 0 ? 2 : off), BAD);
            changesNothing(what + "rests", scene, x -> x.rests(0, 0, 1, 0, off == 0 ? 2 : off), BAD);
            changesNothing(what + "believe", scene, x -> x.believe(off == 0 ? 2 : off), BAD);
            changesNothing(what + "dinner", scene, x -> x.dinner(0, 1, off == 0 ? 2 : off), BAD);
            changesNothing(what + "count", scene, x -> x.count(off == 0 ? 10 : off), BAD);
        }
    }

    private static void badPairs(String name, Scene scene) {
        changesNothing(name + ": sayBoth by one", scene, x -> x.sayBoth(1, 0, false, 1, 1, true), BAD);
        changesNothing(name + ": rests of one", scene, x -> x.rests(1, 0, 1, 1, 0), BAD);
    }

    private static void noChangesNothing() {
        Check.sentence("NO: not as things stand .. nothing changes then");
        changesNothing("lay of no text", RefusalTest::fresh, SaltToLiars::lay, NO);
        changesNothing("lay of a text with a fault", RefusalTest::busy, SaltToLiars::lay, NO);
        changesNothing("lay of a text that is cut", RefusalTest::full, SaltToLiars::lay, NO);
        for (String text : new String[] {"g1,1,1;g1,1,1;t1,4;l2;a1;", "g1,1,1;g1,1,1;g1,1,1;l2;a1;",
            "g1,1,1;g1,1,1;g1,1,1;t1,4;l2;a3;", "g1,1,1;g1,1,1;g1,1,1;t1,4;l2;a1;;"}) {
            Scene scene = () -> {
                SaltToLiars x = busy();
                Check.write(x, text);
                return x;
            };
            changesNothing("lay of " + text, scene, SaltToLiars::lay, NO);
        }
        changesNothing("undo at first", RefusalTest::fresh, SaltToLiars::undo, NO);
        changesNothing("undo behind back", RefusalTest::wentBack, SaltToLiars::undo, NO);
        changesNothing("back at first", RefusalTest::fresh, SaltToLiars::back, NO);
        changesNothing("back with nothing kept", RefusalTest::wentBack, SaltToLiars::back, NO);
    }

    private static void noneChangesNothing() {
        Check.sentence("NONE: there is none .. nothing changes then");
        changesNothing("fault", RefusalTest::fresh, SaltToLiars::fault, NONE);
        changesNothing("fewest", RefusalTest::fresh, x -> x.fewest(4, 0), NONE);
        changesNothing("believe", RefusalTest::busy, x -> x.believe(0), NONE);
        changesNothing("believe", RefusalTest::busy, x -> x.believe(1), NONE);
        Scene without = () -> {
            SaltToLiars x = Check.laid(Check.alike(8, 0, 0, 0));
            x.keep();
            return x;
        };
        changesNothing("rests", without, x -> x.rests(0, 0, 1, 0, 1), NONE);
    }

    private static void fullChangesNothing() {
        Check.sentence("FULL .. nothing changes then");
        changesNothing("write", RefusalTest::full, x -> x.write(';'), FULL);
        changesNothing("tell", RefusalTest::full, x -> x.tell(0, true), FULL);
        changesNothing("keep", RefusalTest::full, SaltToLiars::keep, FULL);
    }

    private static void answersChangeNothing() {
        Check.sentence("calls that only tell something change nothing");
        Scene[] scenes = {RefusalTest::fresh, RefusalTest::busy, RefusalTest::full, RefusalTest::wentBack};
        Call[] calls = {SaltToLiars::fault, x -> x.guest(1, 4), x -> x.thing(1, 1), x -> x.weight(3, 1), x -> x.went(0, 1),
            x -> x.fits(0), x -> x.fits(1), x -> x.sure(true), x -> x.sure(false), SaltToLiars::laws, x -> x.ask(0), x -> x.ask(1),
            x -> x.fewest(1, 6), x -> x.fewest(0, 0), x -> x.story(7, 0), x -> x.story(7, 1), x -> x.rests(0, 1, 2, 3, 0),
            x -> x.rests(3, 1, 4, 3, 1), x -> x.believe(0), x -> x.believe(1), SaltToLiars::trail, x -> x.dinner(9999, 60, 0),
            x -> x.dinner(1, 60, 1), x -> x.count(4)};
        for (Scene scene : scenes) {
            for (int k = 0; k < calls.length; k++) {
                SaltToLiars x = scene.make();
                long first = calls[k].on(x);
                Check.due("call " + k + " once more", calls[k].on(x), first);
                sameAs("call " + k, scene, x);
            }
        }
    }

    // ---- the order

    private static void badAheadOfFull() {
        Check.sentence("Of several the first in this order: BAD ahead of FULL");
        SaltToLiars x = full();
        Check.due("write", x.write(31), BAD);
        Check.due("write", x.write(127), BAD);
        Check.due("tell", x.tell(-1, true), BAD);
        Check.due("tell", x.tell(5, true), BAD);
        Check.due("write of a letter", x.write(126), FULL);
        Check.due("tell by a guest", x.tell(4, true), FULL);
    }

    private static void badAheadOfNone() {
        Check.sentence("Of several the first in this order: BAD ahead of NONE");
        SaltToLiars x = busy();
        Check.due("believe", x.believe(2), BAD);
        Check.due("believe", x.believe(-1), BAD);
        SaltToLiars away = Check.laid("g0,5,0;".repeat(8) + "t1,1;");
        Check.due("fewest that is none", away.fewest(1, 6), NONE);
        Check.due("fewest in 7", away.fewest(1, 7), BAD);
        Check.due("fewest in -1", away.fewest(1, -1), BAD);
        Check.due("fewest to 8", away.fewest(8, 0), BAD);
        SaltToLiars without = Check.laid(Check.alike(8, 0, 0, 0));
        Check.due("rests that are none", without.rests(0, 0, 1, 0, 1), NONE);
        Check.due("rests, what 2", without.rests(0, 0, 1, 0, 2), BAD);
        Check.due("rests of thing 4", without.rests(0, 0, 1, 4, 1), BAD);
    }

    private static void anyNumberMayBeBad() {
        Check.sentence("Of several the first in this order, whatever the order at a call: the last number may be the bad one");
        SaltToLiars x = new SaltToLiars();
        Check.due("sayBoth", x.sayBoth(0, 0, true, 1, 4, true), BAD);
        Check.due("rests", x.rests(0, 0, 1, 0, 2), BAD);
        Check.due("dinner", x.dinner(0, 1, 2), BAD);
        Check.due("fewest", x.fewest(0, 7), BAD);
        Check.due("went", x.went(0, 0), BAD);
        Check.due("no round", x.count(4), 0);
    }
}
