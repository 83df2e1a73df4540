import java.util.ArrayList;
import java.util.Arrays;
import java.util.List;
import java.util.Random;
import java.util.regex.Matcher;
import java.util.regex.Pattern;

/** Long runs of drawn calls, each answer beside that of a slow model which keeps every ROUND and replays them. */
public final class ModelTest {
    private static final int RUNS = 1500, CALLS = 512;
    private static int wrong = 0;

    public static void main(String[] args) {
        for (int seed = 0; seed < RUNS && wrong < 20; seed++) {
            run(seed);
        }
        System.out.println(wrong == 0 ? RUNS + " runs are as the model has them" : wrong + " answers are not as due");
        if (wrong != 0) {
            System.exit(1);
        }
    }

    private static void run(int seed) {
        Driver driver = new Driver(new Random(seed));
        for (int call = 0; call < CALLS; call++) {
            driver.step();
            if (driver.got != driver.want) {
                wrong++;
                System.out.println("run " + seed + ", call " + call + ": " + driver.call
                    + " answered " + driver.got + ", due is " + driver.want);
                return;
            }
        }
    }

    /** Draws calls; a TEXT, once begun, is written to its end and mostly laid then. */
    private static final class Driver {
        private final Random random;
        private final SaltToLiars real = new SaltToLiars();
        private final Model model = new Model();
        private String toWrite = "";
        private boolean layNext;
        String call;
        long got, want;

        Driver(Random random) {
            this.random = random;
        }

        private int upTo(int most) {
            return random.nextInt(most + 1);
        }

        /** Mostly from 0 to below n, now and then just outside or far off. */
        private int near(int n) {
            int odd = upTo(39);
            if (odd == 0) {
                return -1;
            }
            if (odd == 1) {
                return n;
            }
            if (odd == 2) {
                int[] far = {Integer.MIN_VALUE, Integer.MAX_VALUE, 31, 32, 64, n + 1, -n};
                return far[upTo(far.length - 1)];
            }
            return n <= 0 ? 0 : random.nextInt(n);
        }

        private boolean coin() {
            return random.nextBoolean();
        }

        private void answer(String told, long is, long due) {
            call = told;
            got = is;
            want = due;
        }

        void step() {
            if (!toWrite.isEmpty()) {
                int letter = toWrite.charAt(0);
                toWrite = toWrite.substring(1);
                answer("write " + letter, real.write(letter), model.write(letter));
                layNext = toWrite.isEmpty() && upTo(3) > 0;
                return;
            }
            if (layNext) {
                layNext = false;
                answer("lay", real.lay(), model.lay());
                return;
            }
            int pick = upTo(99);
            if (pick < 40) {
                round();
            } else if (pick < 60) {
                guess();
            } else if (pick < 92) {
                other();
            } else {
                tables();
            }
        }

        private void round() {
            int g = model.guests.size();
            int m = model.things.size();
            int i = near(g);
            int t = near(m);
            boolean so = coin();
            switch (upTo(5)) {
                case 0:
                    answer("hush", real.hush(), model.hush());
                    break;
                case 1:
                    answer("undo", real.undo(), model.undo());
                    break;
                case 2:
                case 3:
                    int j = near(g);
                    int u = near(m);
                    boolean also = coin();
                    answer("sayBoth " + i + " " + t + " " + so + " " + j + " " + u + " " + also,
                        real.sayBoth(i, t, so, j, u, also), model.sayBoth(i, t, so, j, u, also));
                    break;
                default:
                    answer("say " + i + " " + t + " " + so, real.say(i, t, so), model.say(i, t, so));
            }
        }

        private void guess() {
            int what = near(2);
            boolean so = coin();
            switch (upTo(7)) {
                case 0:
                    answer("fits " + what, real.fits(what), model.fits(what));
                    break;
                case 1:
                    answer("sure " + so, real.sure(so), model.sure(so));
                    break;
                case 2:
                    answer("laws", real.laws(), model.laws());
                    break;
                case 3:
                    answer("ask " + what, real.ask(what), model.ask(what));
                    break;
                case 4:
                    int seat = near(model.guests.size());
                    int n = near(7);
                    answer("fewest " + seat + " " + n, real.fewest(seat, n), model.fewest(seat, n));
                    break;
                case 5:
                    int set = near(1 << model.guests.size());
                    answer("story " + set + " " + what, real.story(set, what), model.story(set, what));
                    break;
                default:
                    int i = near(model.guests.size());
                    int s = near(model.things.size());
                    int j = near(model.guests.size());
                    int t = near(model.things.size());
                    answer("rests " + i + " " + s + " " + j + " " + t + " " + what,
                        real.rests(i, s, j, t, what), model.rests(i, s, j, t, what));
            }
        }

        private void other() {
            int i = near(model.guests.size());
            int t = near(model.things.size());
            int what = near(2);
            boolean so = coin();
            switch (upTo(13)) {
                case 0:
                    int about = near(5);
                    answer("guest " + i + " " + about, real.guest(i, about), model.guest(i, about));
                    break;
                case 1:
                    answer("thing " + t + " " + what, real.thing(t, what), model.thing(t, what));
                    break;
                case 2:
                    answer("weight " + i + " " + t, real.weight(i, t), model.weight(i, t));
                    break;
                case 3:
                    int k = near(11);
                    int part = near(3);
                    answer("went " + k + " " + part, real.went(k, part), model.went(k, part));
                    break;
                case 4:
                case 5:
                    answer("tell " + i + " " + so, real.tell(i, so), model.tell(i, so));
                    break;
                case 6:
                    if (upTo(2) == 0) {
                        answer("forget", real.forget(), model.forget());
                    } else {
                        answer("trail", real.trail(), model.trail());
                    }
                    break;
                case 7:
                    answer("believe " + what, real.believe(what), model.believe(what));
                    break;
                case 8:
                    int z = near(10000);
                    int n = 1 + near(60);
                    answer("dinner " + z + " " + n + " " + what, real.dinner(z, n, what), model.dinner(z, n, what));
                    break;
                case 9:
                    answer("keep", real.keep(), model.keep());
                    break;
                case 10:
                    answer("back", real.back(), model.back());
                    break;
                default:
                    int which = near(10);
                    answer("count " + which, real.count(which), model.count(which));
            }
        }

        private void tables() {
            switch (upTo(5)) {
                case 0:
                    toWrite = drawText();
                    answer("wipe", real.wipe(), model.wipe());
                    break;
                case 1:
                case 2:
                    answer("lay", real.lay(), model.lay());
                    break;
                case 3:
                    int letter = coin() ? near(127) : "gtla0123456789,;".charAt(upTo(15));
                    answer("write " + letter, real.write(letter), model.write(letter));
                    break;
                default:
                    answer("fault", real.fault(), model.fault());
            }
        }

        private String drawText() {
            List<String> items = new ArrayList<>();
            int guests = upTo(9) == 0 ? upTo(10) : 3 + upTo(5);
            int things = upTo(9) == 0 ? upTo(8) : 1 + upTo(5);
            int kinds = upTo(4);
            for (int i = 0; i < guests; i++) {
                items.add("g" + (coin() ? upTo(4) : kinds) + "," + upTo(10) + "," + upTo(63) + ";");
            }
            for (int t = 0; t < things; t++) {
                items.add("t" + upTo(1) + "," + (1 + upTo(3)) + ";");
            }
            for (int k = upTo(2); k > 0; k--) {
                items.add("l" + upTo(3) + ";");
            }
            for (int k = upTo(2); k > 0; k--) {
                items.add("a" + upTo(upTo(7)) + ";");
            }
            if (coin()) {
                java.util.Collections.shuffle(items, random);
            }
            StringBuilder text = new StringBuilder(String.join("", items));
            for (int k = upTo(3) == 0 ? 1 + upTo(1) : 0; k > 0 && text.length() > 0; k--) {
                int place = upTo(text.length() - 1);
                char sign = "gtlax0123456789,; ".charAt(upTo(17));
                switch (upTo(2)) {
                    case 0: text.setCharAt(place, sign); break;
                    case 1: text.insert(place, sign); break;
                    default: text.deleteCharAt(place);
                }
            }
            return text.toString();
        }
    }

    /** One who says something. */
    private record Saying(int i, int t, boolean so) { }

    private record Guest(int kind, int honest, int knows) { }

    private record Thing(boolean so, int weight) { }

    /** What KEPT holds. */
    private record Stand(List<List<Saying>> rounds) { }

    private static final class Model {
        List<Guest> guests = new ArrayList<>();
        List<Thing> things = new ArrayList<>();
        int law, start;
        List<List<Saying>> rounds = new ArrayList<>();
        /** So many ROUNDS at the beginning can't be UNDONE any more. */
        int fixed = 0;
        List<Stand> kept = new ArrayList<>();
        List<Saying> told = new ArrayList<>();
        String text = "";

        Model() {
            text = "g0,7,3;g1,9,0;g2,10,5;g3,5,15;g4,8,9;t1,2;t0,1;t1,3;t0,4;a2;";
            lay();
            text = "";
        }

        // ---- tables

        int write(int letter) {
            if (letter < 32 || letter > 126) {
                return -1;
            }
            if (text.length() == 200) {
                return -3;
            }
            text += (char) letter;
            return text.length();
        }

        int wipe() {
            int length = text.length();
            text = "";
            return length;
        }

        private static final Pattern ITEM = Pattern.compile(
            "g0?[0-4],(0?[0-9]|10),(0?[0-9]|[1-5][0-9]|6[0-3]);|t0?[01],0?[1-4];|l0?[0-3];|a0?[0-7];");

        int fault() {
            Matcher matcher = ITEM.matcher(text);
            int guestsSoFar = 0;
            int thingsSoFar = 0;
            int place = 0;
            while (place < text.length()) {
                matcher.region(place, text.length());
                if (!matcher.lookingAt()) {
                    return place;
                }
                guestsSoFar += text.charAt(place) == 'g' ? 1 : 0;
                thingsSoFar += text.charAt(place) == 't' ? 1 : 0;
                if (guestsSoFar > 8 || thingsSoFar > 6) {
                    return place;
                }
                place = matcher.end();
            }
            return -4;
        }

        int lay() {
            if (fault() != -4) {
                return -2;
            }
            List<Guest> newGuests = new ArrayList<>();
            List<Thing> newThings = new ArrayList<>();
            int newLaw = 0;
            int newStart = 0;
            for (String item : text.split(";")) {
                if (item.isEmpty()) {
                    continue;
                }
                String[] parts = item.substring(1).split(",");
                int first = Integer.parseInt(parts[0]);
                switch (item.charAt(0)) {
                    case 'g':
                        newGuests.add(new Guest(first, Integer.parseInt(parts[1]), Integer.parseInt(parts[2])));
                        break;
                    case 't':
                        newThings.add(new Thing(first == 1, Integer.parseInt(parts[1])));
                        break;
                    case 'l':
                        newLaw = first;
                        break;
                    default:
                        newStart = first;
                }
            }
            if (newGuests.size() < 3 || newThings.isEmpty() || newStart >= newGuests.size()) {
                return -2;
            }
            guests = newGuests;
            things = newThings;
            law = newLaw;
            start = newStart;
            rounds = new ArrayList<>();
            fixed = 0;
            kept.clear();
            told.clear();
            return guests.size();
        }

        private boolean noGuest(int i) {
            return i < 0 || i >= guests.size();
        }

        private boolean noThing(int t) {
            return t < 0 || t >= things.size();
        }

        private static boolean notOneOf(int what, int n) {
            return what < 0 || what >= n;
        }

        private int distance(int a, int b) {
            int up = 0;
            while ((a + up) % guests.size() != b) {
                up++;
            }
            int down = 0;
            while ((b + down) % guests.size() != a) {
                down++;
            }
            return up < down ? up : down;
        }

        int guest(int i, int what) {
            if (noGuest(i) || notOneOf(what, 5)) {
                return -1;
            }
            if (what == 3) {
                return lies(i);
            }
            if (what == 4) {
                return distance(salt(), i);
            }
            Guest guest = guests.get(i);
            return what == 0 ? guest.kind() : what == 1 ? guest.honest() : guest.knows();
        }

        private int lies(int who) {
            int n = 0;
            for (List<Saying> round : rounds) {
                for (Saying saying : round) {
                    if ((who == -1 || saying.i() == who) && saying.so() != things.get(saying.t()).so()) {
                        n++;
                    }
                }
            }
            return n;
        }

        int thing(int t, int what) {
            if (noThing(t) || notOneOf(what, 2)) {
                return -1;
            }
            return what == 1 ? things.get(t).weight() : things.get(t).so() ? 1 : 0;
        }

        int weight(int i, int t) {
            if (noGuest(i) || noThing(t)) {
                return -1;
            }
            int weight = things.get(t).weight();
            int kind = guests.get(i).kind();
            if (kind == 2) {
                weight -= 1;
            }
            if (kind == 3) {
                weight += weight;
            }
            if (kind == 4 && weight == 1) {
                weight = 0;
            }
            return weight;
        }

        // ---- rounds

        private int actual() {
            int way = 0;
            for (int t = 0; t < things.size(); t++) {
                if (things.get(t).so()) {
                    way += 1 << t;
                }
            }
            return way;
        }

        private int oneStep(int from, int to) {
            int n = guests.size();
            for (int d = 1; d < n; d++) {
                if ((from + d) % n == to) {
                    return (from + 1) % n;
                }
                if ((from + n - d) % n == to) {
                    return (from + n - 1) % n;
                }
            }
            return from;
        }

        /** SEAT by SEAT, as the document tells it. */
        private int towards(int byLaw, int seat, int liar, int counts) {
            int n = guests.size();
            if (seat == liar) {
                return seat;
            }
            if (byLaw == 3) {
                int way = oneStep(seat, liar) == (seat + 1) % n ? 1 : n - 1;
                for (int k = 0; k <= counts; k++) {
                    seat = (seat + way) % n;
                }
                return seat;
            }
            for (int k = 0; k < (byLaw == 2 ? 1 : counts) && seat != liar; k++) {
                // the way is that of the first step: nearer by one, the shorter way stays the shorter one
                seat = byLaw == 1 ? (seat + 1) % n : oneStep(seat, liar);
            }
            return seat;
        }

        private int moved(int byLaw, int way, int seat, List<Saying> round) {
            List<int[]> counting = new ArrayList<>();
            List<Integer> speakers = new ArrayList<>();
            for (Saying saying : round) {
                speakers.add(saying.i());
                boolean isSo = (way & 1 << saying.t()) != 0;
                if (isSo != saying.so() && weight(saying.i(), saying.t()) > 0) {
                    counting.add(new int[] {saying.i(), weight(saying.i(), saying.t())});
                }
            }
            if (counting.size() == 2) {
                int[] a = counting.get(0);
                int[] b = counting.get(1);
                if (a[1] == b[1]) {
                    return seat;
                }
                return a[1] > b[1] ? towards(byLaw, seat, a[0], a[1] - b[1]) : towards(byLaw, seat, b[0], b[1] - a[1]);
            }
            if (counting.size() == 1) {
                return towards(byLaw, seat, counting.get(0)[0], counting.get(0)[1]);
            }
            for (int d = 0; d <= guests.size(); d++) {
                for (int i = 0; i < guests.size(); i++) {
                    if (guests.get(i).kind() == 1 && !speakers.contains(i) && distance(seat, i) == d) {
                        return oneStep(seat, i);
                    }
                }
            }
            return seat;
        }

        /** Where the salt was behind each of the ROUNDS, at first ahead of them. */
        private List<Integer> seats() {
            List<Integer> seats = new ArrayList<>();
            int seat = start;
            seats.add(seat);
            for (List<Saying> round : rounds) {
                seat = moved(law, actual(), seat, round);
                seats.add(seat);
            }
            return seats;
        }

        private int salt() {
            List<Integer> seats = seats();
            return seats.get(seats.size() - 1);
        }

        private int play(List<Saying> round) {
            rounds.add(round);
            fixed = Math.max(fixed, rounds.size() - 8);
            return salt();
        }

        int say(int i, int t, boolean so) {
            return noGuest(i) || noThing(t) ? -1 : play(List.of(new Saying(i, t, so)));
        }

        int sayBoth(int i, int t, boolean so, int j, int u, boolean also) {
            if (noGuest(i) || noThing(t) || noGuest(j) || noThing(u) || i == j) {
                return -1;
            }
            return play(List.of(new Saying(i, t, so), new Saying(j, u, also)));
        }

        int hush() {
            return play(List.of());
        }

        int undo() {
            if (rounds.size() == fixed) {
                return -2;
            }
            rounds.remove(rounds.size() - 1);
            return rounds.size() - fixed;
        }

        int went(int k, int what) {
            if (k < 0 || k >= 10 || k >= rounds.size() || notOneOf(what, 3)) {
                return -1;
            }
            int round = rounds.size() - 1 - k;
            return what == 2 ? rounds.get(round).size() : seats().get(round + what);
        }

        // ---- what can be so

        private boolean explains(int byLaw, int way) {
            List<Integer> seats = seats();
            for (int r = Math.max(0, rounds.size() - 10); r < rounds.size(); r++) {
                if (moved(byLaw, way, seats.get(r), rounds.get(r)) != seats.get(r + 1)) {
                    return false;
                }
            }
            return true;
        }

        private List<Integer> fitting() {
            List<Integer> list = new ArrayList<>();
            for (int way = 0; way < 1 << things.size(); way++) {
                if (explains(law, way)) {
                    list.add(way);
                }
            }
            return list;
        }

        int fits(int what) {
            if (notOneOf(what, 2)) {
                return -1;
            }
            List<Integer> list = fitting();
            return what == 0 ? list.size() : list.get(0);
        }

        int sure(boolean so) {
            int bits = 0;
            for (int t = 0; t < things.size(); t++) {
                boolean all = true;
                for (int way : fitting()) {
                    all &= (way >> t & 1) == (so ? 1 : 0);
                }
                bits += all ? 1 << t : 0;
            }
            return bits;
        }

        int laws() {
            int bits = 0;
            for (int l = 0; l < 4; l++) {
                bits += explains(l, actual()) ? 1 << l : 0;
            }
            return bits;
        }

        int ask(int what) {
            if (notOneOf(what, 2)) {
                return -1;
            }
            List<Integer> list = fitting();
            int from = salt();
            int best = Integer.MAX_VALUE;
            int which = -4;
            for (int i = 0; i < guests.size(); i++) {
                for (int t = 0; t < things.size(); t++) {
                    int[] at = new int[8];
                    for (int way : list) {
                        at[moved(law, way, from, List.of(new Saying(i, t, true)))]++;
                    }
                    int worst = Arrays.stream(at).max().getAsInt();
                    if (worst < best) {
                        best = worst;
                        which = 8 * i + t;
                    }
                }
            }
            return what == 0 ? which : best;
        }

        int fewest(int seat, int n) {
            if (noGuest(seat) || n < 0 || n > 6) {
                return -1;
            }
            int best = deepest(salt(), seat, n, new Integer[8][7]);
            return best >= 100000 ? -4 : best;
        }

        private int deepest(int from, int goal, int left, Integer[][] memo) {
            if (left == 0) {
                return from == goal ? 0 : 100000;
            }
            if (memo[from][left] != null) {
                return memo[from][left];
            }
            int best = deepest(moved(law, actual(), from, List.of()), goal, left - 1, memo);
            for (int i = 0; i < guests.size(); i++) {
                for (int t = 0; t < things.size(); t++) {
                    if ((guests.get(i).knows() & 1 << t) == 0) {
                        continue;
                    }
                    boolean so = things.get(t).so();
                    int honest = moved(law, actual(), from, List.of(new Saying(i, t, so)));
                    int lying = moved(law, actual(), from, List.of(new Saying(i, t, !so)));
                    best = Math.min(best, deepest(honest, goal, left - 1, memo));
                    best = Math.min(best, weight(i, t) + deepest(lying, goal, left - 1, memo));
                }
            }
            memo[from][left] = best;
            return best;
        }

        int story(int set, int what) {
            if (set < 0 || set >= 1 << guests.size() || notOneOf(what, 2)) {
                return -1;
            }
            int known = 0;
            int hidden = 0;
            for (int t = 0; t < things.size(); t++) {
                boolean any = false;
                for (int i = 0; i < guests.size(); i++) {
                    any |= (set & 1 << i) != 0 && (guests.get(i).knows() & 1 << t) != 0;
                }
                known += any ? 1 << t : 0;
                hidden += !any && !things.get(t).so() ? 1 : 0;
            }
            return what == 0 ? known : hidden;
        }

        // ---- at once

        private int worth(int who, int s, boolean lies, int saltThen) {
            return (saltThen == who ? 5 : 0) - (lies ? weight(who, s) : 0);
        }

        private int saltIf(int i, int s, boolean first, int j, int t, boolean second) {
            List<Saying> round = new ArrayList<>();
            if (first) {
                round.add(new Saying(i, s, !things.get(s).so()));
            }
            if (second) {
                round.add(new Saying(j, t, !things.get(t).so()));
            }
            return moved(law, actual(), salt(), round);
        }

        int rests(int i, int s, int j, int t, int what) {
            if (noGuest(i) || noGuest(j) || i == j || noThing(s) || noThing(t) || notOneOf(what, 2)) {
                return -1;
            }
            List<Integer> list = new ArrayList<>();
            boolean[][] ways = {{true, true}, {true, false}, {false, true}, {false, false}};
            for (int w = 0; w < 4; w++) {
                boolean a = ways[w][0];
                boolean b = ways[w][1];
                int then = saltIf(i, s, a, j, t, b);
                boolean firstRests = worth(i, s, !a, saltIf(i, s, !a, j, t, b)) <= worth(i, s, a, then);
                boolean otherRests = worth(j, t, !b, saltIf(i, s, a, j, t, !b)) <= worth(j, t, b, then);
                if (firstRests && otherRests) {
                    list.add(w);
                }
            }
            return what == 0 ? list.size() : list.isEmpty() ? -4 : list.get(0);
        }

        // ---- whom to believe

        int tell(int i, boolean so) {
            if (noGuest(i)) {
                return -1;
            }
            if (told.size() == 8) {
                return -3;
            }
            told.add(new Saying(i, 0, so));
            return told.size();
        }

        int forget() {
            int size = told.size();
            told.clear();
            return size;
        }

        long believe(int part) {
            if (notOneOf(part, 2)) {
                return -1;
            }
            java.math.BigInteger so = java.math.BigInteger.ONE;
            java.math.BigInteger not = java.math.BigInteger.ONE;
            for (Saying saying : told) {
                int honest = guests.get(saying.i()).honest();
                so = so.multiply(java.math.BigInteger.valueOf(saying.so() ? honest : 10 - honest));
                not = not.multiply(java.math.BigInteger.valueOf(saying.so() ? 10 - honest : honest));
            }
            java.math.BigInteger all = so.add(not);
            if (all.signum() == 0) {
                return -4;
            }
            return (part == 0 ? so : all).divide(so.gcd(all)).longValueExact();
        }

        int trail() {
            int bits = 0;
            for (int seat : seats()) {
                bits |= 1 << seat;
            }
            return bits;
        }

        int dinner(int z, int n, int what) {
            if (z < 0 || z > 9999 || n < 1 || n > 60 || notOneOf(what, 2)) {
                return -1;
            }
            int seat = salt();
            int lies = 0;
            for (int k = 0; k < n; k++) {
                java.math.BigInteger x = java.math.BigInteger.valueOf(7919L * z + 6151L * k + 1);
                int draw = x.multiply(x).mod(java.math.BigInteger.valueOf(65521)).intValue() / 8;
                int i = draw % guests.size();
                int t = (draw / 8) % things.size();
                boolean honest = (draw / 64) % 10 < guests.get(i).honest();
                boolean said = honest ? things.get(t).so() : !things.get(t).so();
                lies += honest ? 0 : 1;
                seat = moved(law, actual(), seat, List.of(new Saying(i, t, said)));
            }
            return what == 0 ? seat : lies;
        }

        int keep() {
            if (kept.size() == 2) {
                return -3;
            }
            kept.add(new Stand(new ArrayList<>(rounds)));
            return kept.size();
        }

        int back() {
            if (kept.isEmpty()) {
                return -2;
            }
            rounds = new ArrayList<>(kept.remove(kept.size() - 1).rounds());
            fixed = rounds.size();
            return kept.size();
        }

        int count(int what) {
            int[] all = {guests.size(), things.size(), law, salt(), rounds.size(), lies(-1), told.size(),
                rounds.size() - fixed, kept.size(), text.length()};
            return notOneOf(what, all.length) ? -1 : all[what];
        }
    }
}
