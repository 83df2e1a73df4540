/** A table at which the salt moves toward the last untruth; ../shared/DOC.md tells every call. */
public final class SaltToLiars {
    public static final int BAD = -1, NO = -2, FULL = -3, NONE = -4;

    private static final int KEPT_MOST = 2;
    private static final int ROUNDS_AHEAD_MOST = 6;
    private static final int DINNER_LAST = 9999;
    private static final int DINNER_ROUNDS_MOST = 60;
    private static final String FIRST_TABLE =
        "g0,7,3;g1,9,0;g2,10,5;g3,5,15;g4,8,9;t1,2;t0,1;t1,3;t0,4;a2;";

    private final Letters text = new Letters();
    private final Reader reader = new Reader();
    private final Evening evening = new Evening();
    private final Evening[] kept = new Evening[] {new Evening(), new Evening()};
    private final Ways ways = new Ways();
    private final Paths paths = new Paths();
    private final Pact pact = new Pact();
    private final Sayings told = new Sayings();
    private final Feast feast = new Feast();
    private Table table = new Table();
    private Table draft = new Table();
    private int keptNow;

    public SaltToLiars() {
        for (int k = 0; k < FIRST_TABLE.length(); k++) {
            text.add(FIRST_TABLE.charAt(k));
        }
        reader.read(text, draft);
        takeDraft();
        text.clear();
    }

    // ---- tables

    public int write(int letter) {
        if (letter < 32 || letter > 126) {
            return BAD;
        }
        return text.add(letter) ? text.length : FULL;
    }

    public int wipe() {
        int length = text.length;
        text.clear();
        return length;
    }

    public int fault() {
        return reader.read(text, draft);
    }

    public int lay() {
        if (reader.read(text, draft) != NONE || !draft.canBeLaid()) {
            return NO;
        }
        takeDraft();
        return table.guests;
    }

    public int guest(int i, int what) {
        if (!table.hasGuest(i)) {
            return BAD;
        }
        switch (what) {
            case 0: return table.kind[i];
            case 1: return table.honesty[i];
            case 2: return table.known[i];
            case 3: return evening.lied[i];
            case 4: return table.apart(evening.salt, i);
            default: return BAD;
        }
    }

    public int thing(int t, int what) {
        if (!table.hasThing(t)) {
            return BAD;
        }
        switch (what) {
            case 0: return Table.isSo(table.truths, t) ? 1 : 0;
            case 1: return table.heft[t];
            default: return BAD;
        }
    }

    public int weight(int i, int t) {
        return table.hasGuest(i) && table.hasThing(t) ? table.tally(i, t) : BAD;
    }

    // ---- rounds

    public int say(int i, int t, boolean so) {
        if (!table.hasGuest(i) || !table.hasThing(t)) {
            return BAD;
        }
        Round round = evening.upcoming();
        round.clear();
        round.add(i, t, so);
        return evening.play(table);
    }

    public int sayBoth(int i, int t, boolean so, int j, int u, boolean also) {
        if (!arePair(i, j) || !table.hasThing(t) || !table.hasThing(u)) {
            return BAD;
        }
        Round round = evening.upcoming();
        round.clear();
        round.add(i, t, so);
        round.add(j, u, also);
        return evening.play(table);
    }

    public int hush() {
        evening.upcoming().clear();
        return evening.play(table);
    }

    public int undo() {
        if (evening.undoable == 0) {
            return NO;
        }
        evening.takeBack();
        return evening.undoable;
    }

    public int went(int k, int what) {
        if (k < 0 || k >= evening.remembered()) {
            return BAD;
        }
        Round round = evening.past(k);
        switch (what) {
            case 0: return round.from;
            case 1: return round.to;
            case 2: return round.spoke;
            default: return BAD;
        }
    }

    // ---- what can be so

    public int fits(int what) {
        if (what < 0 || what > 1) {
            return BAD;
        }
        ways.sift(table, evening);
        return what == 0 ? ways.fitting : ways.lowest;
    }

    public int sure(boolean so) {
        ways.sift(table, evening);
        if (ways.fitting == 0) {
            return NONE;
        }
        return so ? ways.alwaysSo : ways.neverSo;
    }

    public int laws() {
        return Ways.possibleLaws(table, evening);
    }

    public int ask(int what) {
        if (what < 0 || what > 1) {
            return BAD;
        }
        ways.sift(table, evening);
        if (ways.fitting == 0) {
            return NONE;
        }
        ways.findQuestion(table, evening.salt);
        return what == 0 ? ways.question : ways.worst;
    }

    public int fewest(int seat, int n) {
        if (!table.hasGuest(seat) || n < 0 || n > ROUNDS_AHEAD_MOST) {
            return BAD;
        }
        paths.begin(table, evening.salt);
        for (int k = 0; k < n; k++) {
            paths.goOneRound(table);
        }
        return paths.costOf(seat);
    }

    public int story(int set, int what) {
        if (set < 0 || set >= 1 << table.guests || what < 0 || what > 1) {
            return BAD;
        }
        int known = table.knownBy(set);
        return what == 0 ? known : Integer.bitCount(table.allThings() & ~table.truths & ~known);
    }

    // ---- at once

    public int rests(int i, int s, int j, int t, int what) {
        if (!arePair(i, j) || !table.hasThing(s) || !table.hasThing(t) || what < 0 || what > 1) {
            return BAD;
        }
        pact.between(i, s, j, t);
        pact.weigh(table, evening.salt);
        return what == 0 ? pact.steady : pact.firstSteady;
    }

    // ---- whom to believe

    public int tell(int i, boolean so) {
        if (!table.hasGuest(i)) {
            return BAD;
        }
        return told.add(i, so) ? told.size : FULL;
    }

    public int forget() {
        int size = told.size;
        told.clear();
        return size;
    }

    public long believe(int part) {
        if (part < 0 || part > 1) {
            return BAD;
        }
        return told.chance(table, part == 0);
    }

    public int trail() {
        return evening.trail;
    }

    public int dinner(int z, int n, int what) {
        if (z < 0 || z > DINNER_LAST || n < 1 || n > DINNER_ROUNDS_MOST || what < 0 || what > 1) {
            return BAD;
        }
        feast.hold(table, evening.salt, z, n);
        return what == 0 ? feast.salt : feast.untruths;
    }

    public int keep() {
        if (keptNow >= KEPT_MOST) {
            return FULL;
        }
        kept[keptNow].copy(evening);
        keptNow++;
        return keptNow;
    }

    public int back() {
        if (keptNow <= 0) {
            return NO;
        }
        keptNow--;
        evening.copy(kept[keptNow]);
        return keptNow;
    }

    public int count(int what) {
        switch (what) {
            case 0: return table.guests;
            case 1: return table.things;
            case 2: return table.law;
            case 3: return evening.salt;
            case 4: return evening.rounds;
            case 5: return evening.untruths;
            case 6: return told.size;
            case 7: return evening.undoable;
            case 8: return keptNow;
            case 9: return text.length;
            default: return BAD;
        }
    }

    private boolean arePair(int i, int j) {
        return table.hasGuest(i) && table.hasGuest(j) && i != j;
    }

    /** The two tables change places, so that laying makes no new rows. */
    private void takeDraft() {
        Table old = table;
        table = draft;
        draft = old;
        evening.begin(table);
        told.clear();
        keptNow = 0;
    }

    /** THE TEXT. */
    private static final class Letters {
        private static final int MOST = 200;

        final int[] row = new int[MOST];
        int length;

        void clear() {
            length = 0;
        }

        boolean add(int letter) {
            if (length >= MOST) {
                return false;
            }
            row[length] = letter;
            length++;
            return true;
        }

        /** A place behind the end holds no letter that an ITEM could have. */
        int at(int place) {
            return place >= 0 && place < length ? row[place] : 0;
        }
    }

    /** Reads a TEXT, ITEM by ITEM, into a table. */
    private static final class Reader {
        private static final int NUMBERS_MOST = 3;

        final int[] numbers = new int[NUMBERS_MOST];
        private int place;

        /** The FAULT, or NONE; with a FAULT the table holds only what stands ahead of it. */
        int read(Letters text, Table table) {
            table.clear();
            place = 0;
            for (int item = 0; item < Letters.MOST && place < text.length; item++) {
                int start = place;
                int letter = text.at(start);
                if (!readNumbers(text, howMany(letter)) || !table.take(letter, numbers)) {
                    return start;
                }
            }
            return NONE;
        }

        private static int howMany(int letter) {
            switch (letter) {
                case 'g': return 3;
                case 't': return 2;
                case 'l': return 1;
                case 'a': return 1;
                default: return 0;
            }
        }

        private boolean readNumbers(Letters text, int wanted) {
            place++;
            for (int k = 0; k < wanted; k++) {
                if (!readNumber(text, k) || text.at(place) != (k == wanted - 1 ? ';' : ',')) {
                    return false;
                }
                place++;
            }
            return wanted > 0;
        }

        private boolean readNumber(Letters text, int k) {
            if (!isFigure(text.at(place))) {
                return false;
            }
            int number = text.at(place) - '0';
            place++;
            if (isFigure(text.at(place))) {
                number = 10 * number + text.at(place) - '0';
                place++;
            }
            numbers[k] = number;
            return true;
        }

        private static boolean isFigure(int letter) {
            return letter >= '0' && letter <= '9';
        }
    }

    /** Who sits where, what is so, and how the salt moves. */
    private static final class Table {
        private static final int GUESTS_MOST = 8, THINGS_MOST = 6, GUESTS_LEAST = 3;
        private static final int DEAF = 1, CHILD = 2, BISHOP = 3, FRIEND = 4;
        private static final int NEARER = 0, ROUND = 1, ONE = 2, PAST = 3;
        private static final int LAWS = 4;

        int guests, things, law, start, truths;
        final int[] kind = new int[GUESTS_MOST];
        final int[] honesty = new int[GUESTS_MOST];
        final int[] known = new int[GUESTS_MOST];
        final int[] heft = new int[THINGS_MOST];

        void clear() {
            guests = 0;
            things = 0;
            law = NEARER;
            start = 0;
            truths = 0;
        }

        /** False, if the ITEM is not so. */
        boolean take(int letter, int[] numbers) {
            switch (letter) {
                case 'g': return takeGuest(numbers[0], numbers[1], numbers[2]);
                case 't': return takeThing(numbers[0], numbers[1]);
                case 'l': return takeLaw(numbers[0]);
                case 'a': return takeStart(numbers[0]);
                default: return false;
            }
        }

        private boolean takeGuest(int itsKind, int itsHonesty, int itsKnown) {
            if (guests >= GUESTS_MOST || itsKind > FRIEND || itsHonesty > 10 || itsKnown > 63) {
                return false;
            }
            kind[guests] = itsKind;
            honesty[guests] = itsHonesty;
            known[guests] = itsKnown;
            guests++;
            return true;
        }

        private boolean takeThing(int isTrue, int itsHeft) {
            if (things >= THINGS_MOST || isTrue > 1 || itsHeft < 1 || itsHeft > 4) {
                return false;
            }
            heft[things] = itsHeft;
            truths |= isTrue << things;
            things++;
            return true;
        }

        private boolean takeLaw(int number) {
            if (number >= LAWS) {
                return false;
            }
            law = number;
            return true;
        }

        /** Whether that SEAT is there shows only when all GUESTS are. */
        private boolean takeStart(int seat) {
            if (seat >= GUESTS_MOST) {
                return false;
            }
            start = seat;
            return true;
        }

        boolean canBeLaid() {
            return guests >= GUESTS_LEAST && things >= 1 && start < guests;
        }

        boolean hasGuest(int i) {
            return i >= 0 && i < guests;
        }

        boolean hasThing(int t) {
            return t >= 0 && t < things;
        }

        int allThings() {
            return (1 << things) - 1;
        }

        static boolean isSo(int way, int t) {
            return (way >> t & 1) == 1;
        }

        boolean knows(int i, int t) {
            return isSo(known[i], t);
        }

        /** S may have bits of THINGS that there are not; these are nothing that anybody knows. */
        int knownBy(int set) {
            int all = 0;
            for (int i = 0; i < guests; i++) {
                if ((set >> i & 1) == 1) {
                    all |= known[i];
                }
            }
            return all & allThings();
        }

        /** By how much an UNTRUTH of t by i counts. */
        int tally(int i, int t) {
            switch (kind[i]) {
                case CHILD: return heft[t] - 1;
                case BISHOP: return 2 * heft[t];
                case FRIEND: return heft[t] == 1 ? 0 : heft[t];
                default: return heft[t];
            }
        }

        /** A table that is only being read may have nothing to divide by. */
        static int remainder(int number, int divisor) {
            return divisor > 0 ? Math.floorMod(number, divisor) : 0;
        }

        private int upward(int from, int to) {
            return to >= from ? to - from : to - from + guests;
        }

        int apart(int from, int to) {
            int gap = Math.abs(to - from);
            return Math.min(gap, guests - gap);
        }

        private int shorterWay(int from, int to) {
            return 2 * upward(from, to) <= guests ? 1 : -1;
        }

        /** Where the salt comes from a SEAT by a ROUND, if THINGS are so by way. */
        int landing(int byLaw, int way, int seat, Round round) {
            int first = round.tally(this, 0, way);
            int second = round.tally(this, 1, way);
            if (first == 0 && second == 0) {
                return towardDeaf(seat, round);
            }
            if (first == second) {
                return seat;
            }
            return first > second
                ? pulled(byLaw, seat, round.who[0], first - second)
                : pulled(byLaw, seat, round.who[1], second - first);
        }

        private int pulled(int byLaw, int seat, int liar, int by) {
            if (seat == liar) {
                return seat;
            }
            int way = byLaw == ROUND ? 1 : shorterWay(seat, liar);
            int far = byLaw == ROUND ? upward(seat, liar) : apart(seat, liar);
            int steps = Math.min(byLaw == ONE ? 1 : by, far);
            if (byLaw == PAST) {
                steps = by + 1;
            }
            return remainder(seat + way * steps, guests);
        }

        private int towardDeaf(int seat, Round round) {
            int goal = seat;
            int nearest = guests;
            for (int i = 0; i < guests; i++) {
                int far = apart(seat, i);
                if (kind[i] == DEAF && far < nearest && !round.isSpeaker(i)) {
                    goal = i;
                    nearest = far;
                }
            }
            return goal == seat ? seat : remainder(seat + shorterWay(seat, goal), guests);
        }
    }

    /** Who says what, and, once it went, where the salt moved. */
    private static final class Round {
        private static final int SPEAKERS_MOST = 2;

        final int[] who = new int[SPEAKERS_MOST];
        final int[] topic = new int[SPEAKERS_MOST];
        final boolean[] said = new boolean[SPEAKERS_MOST];
        int spoke, from, to, trailBefore, liars;

        void clear() {
            spoke = 0;
        }

        void add(int i, int t, boolean so) {
            if (spoke < SPEAKERS_MOST) {
                who[spoke] = i;
                topic[spoke] = t;
                said[spoke] = so;
                spoke++;
            }
        }

        boolean isSpeaker(int i) {
            return spoke > 0 && who[0] == i || spoke > 1 && who[1] == i;
        }

        boolean isUntruth(int k, int way) {
            return k < spoke && said[k] != ((way >> topic[k] & 1) == 1);
        }

        int tally(Table table, int k, int way) {
            return isUntruth(k, way) ? table.tally(who[k], topic[k]) : 0;
        }

        void copy(Round other) {
            for (int k = 0; k < SPEAKERS_MOST; k++) {
                who[k] = other.who[k];
                topic[k] = other.topic[k];
                said[k] = other.said[k];
            }
            spoke = other.spoke;
            from = other.from;
            to = other.to;
            trailBefore = other.trailBefore;
            liars = other.liars;
        }
    }

    /** All that ROUNDS change. */
    private static final class Evening {
        private static final int WENT_MOST = 10, UNDONE_MOST = 8;
        // Behind 8 that are UNDONE, the 10 that went ahead of them must still be told.
        private static final int HELD = WENT_MOST + UNDONE_MOST;

        int salt, rounds, untruths, trail, undoable;
        final int[] lied = new int[Table.GUESTS_MOST];
        private final Round[] ring = new Round[HELD];

        Evening() {
            for (int k = 0; k < HELD; k++) {
                ring[k] = new Round();
            }
        }

        void begin(Table table) {
            salt = table.start;
            rounds = 0;
            untruths = 0;
            trail = 1 << salt;
            undoable = 0;
            for (int i = 0; i < Table.GUESTS_MOST; i++) {
                lied[i] = 0;
            }
        }

        Round upcoming() {
            return ring[Math.floorMod(rounds, HELD)];
        }

        int remembered() {
            return Math.min(rounds, WENT_MOST);
        }

        /** The latest is 0; k is less than remembered(). */
        Round past(int k) {
            return ring[Math.floorMod(rounds - 1 - k, HELD)];
        }

        /** Where the salt is behind the upcoming ROUND. */
        int play(Table table) {
            Round round = upcoming();
            round.from = salt;
            round.to = table.landing(table.law, table.truths, salt, round);
            round.trailBefore = trail;
            round.liars = 0;
            for (int k = 0; k < round.spoke; k++) {
                if (round.isUntruth(k, table.truths)) {
                    round.liars |= 1 << k;
                }
            }
            countLiars(round, 1);
            salt = round.to;
            trail |= 1 << salt;
            rounds++;
            undoable = Math.min(undoable + 1, UNDONE_MOST);
            return salt;
        }

        void takeBack() {
            rounds--;
            undoable--;
            Round round = upcoming();
            countLiars(round, -1);
            salt = round.from;
            trail = round.trailBefore;
        }

        private void countLiars(Round round, int by) {
            for (int k = 0; k < round.spoke; k++) {
                if ((round.liars >> k & 1) == 1) {
                    lied[round.who[k]] += by;
                    untruths += by;
                }
            }
        }

        /** Behind back() nothing can be UNDONE, so that no copy needs to know what could be. */
        void copy(Evening other) {
            salt = other.salt;
            rounds = other.rounds;
            untruths = other.untruths;
            trail = other.trail;
            undoable = 0;
            System.arraycopy(other.lied, 0, lied, 0, Table.GUESTS_MOST);
            for (int k = 0; k < HELD; k++) {
                ring[k].copy(other.ring[k]);
            }
        }
    }

    /** FITS, SURE, LAWS and ASK. */
    private static final class Ways {
        int fitting, lowest, alwaysSo, neverSo, question, worst;
        private final int[] fittingWhereSo = new int[Table.THINGS_MOST];
        private final Round probe = new Round();

        void sift(Table table, Evening evening) {
            fitting = 0;
            lowest = NONE;
            alwaysSo = table.allThings();
            neverSo = table.allThings();
            for (int t = 0; t < table.things; t++) {
                fittingWhereSo[t] = 0;
            }
            for (int way = 0; way <= table.allThings(); way++) {
                if (explains(table, evening, table.law, way)) {
                    admit(table, way);
                }
            }
        }

        private void admit(Table table, int way) {
            if (fitting == 0) {
                lowest = way;
            }
            fitting++;
            alwaysSo &= way;
            neverSo &= ~way;
            for (int t = 0; t < table.things; t++) {
                fittingWhereSo[t] += way >> t & 1;
            }
        }

        private static boolean explains(Table table, Evening evening, int law, int way) {
            for (int k = 0; k < evening.remembered(); k++) {
                Round round = evening.past(k);
                if (table.landing(law, way, round.from, round) != round.to) {
                    return false;
                }
            }
            return true;
        }

        static int possibleLaws(Table table, Evening evening) {
            int laws = 0;
            for (int law = 0; law < Table.LAWS; law++) {
                if (explains(table, evening, law, table.truths)) {
                    laws |= 1 << law;
                }
            }
            return laws;
        }

        /** By the ways that were sifted last. */
        void findQuestion(Table table, int salt) {
            question = NONE;
            worst = fitting + 1;
            for (int i = 0; i < table.guests; i++) {
                for (int t = 0; t < table.things; t++) {
                    int left = mostAlike(table, salt, i, t);
                    if (left < worst) {
                        question = 8 * i + t;
                        worst = left;
                    }
                }
            }
        }

        /** Of a way only the bit of t bears on where the salt comes by this ROUND. */
        private int mostAlike(Table table, int salt, int i, int t) {
            probe.clear();
            probe.add(i, t, true);
            int ifSo = table.landing(table.law, 1 << t, salt, probe);
            int ifNot = table.landing(table.law, 0, salt, probe);
            int so = fittingWhereSo[t];
            return ifSo == ifNot ? fitting : Math.max(so, fitting - so);
        }
    }

    /** FEWEST. */
    private static final class Paths {
        // Far above 6 UNTRUTHS that count by 8 each.
        private static final int UNREACHED = 1000;

        private int[] cost = new int[Table.GUESTS_MOST];
        private int[] next = new int[Table.GUESTS_MOST];
        private final Round probe = new Round();

        void begin(Table table, int salt) {
            for (int seat = 0; seat < table.guests; seat++) {
                cost[seat] = seat == salt ? 0 : UNREACHED;
            }
        }

        int costOf(int seat) {
            return cost[seat] < UNREACHED ? cost[seat] : NONE;
        }

        void goOneRound(Table table) {
            for (int seat = 0; seat < table.guests; seat++) {
                next[seat] = UNREACHED;
            }
            probe.clear();
            spread(table);
            for (int i = 0; i < table.guests; i++) {
                for (int t = 0; t < table.things; t++) {
                    if (table.knows(i, t)) {
                        hear(i, t, true);
                        spread(table);
                        hear(i, t, false);
                        spread(table);
                    }
                }
            }
            int[] old = cost;
            cost = next;
            next = old;
        }

        private void hear(int i, int t, boolean so) {
            probe.clear();
            probe.add(i, t, so);
        }

        /** By the probe, from every SEAT that can be reached so far. */
        private void spread(Table table) {
            int paid = probe.tally(table, 0, table.truths);
            for (int seat = 0; seat < table.guests; seat++) {
                if (cost[seat] < UNREACHED) {
                    int to = table.landing(table.law, table.truths, seat, probe);
                    next[to] = Math.min(next[to], cost[seat] + paid);
                }
            }
        }
    }

    /** RESTS. */
    private static final class Pact {
        private static final int WAYS = 4, WORTH = 5;

        int steady, firstSteady;
        private final int[] who = new int[2];
        private final int[] topic = new int[2];
        private final int[] firstHas = new int[WAYS];
        private final int[] otherHas = new int[WAYS];
        private final Round probe = new Round();

        void between(int i, int s, int j, int t) {
            who[0] = i;
            topic[0] = s;
            who[1] = j;
            topic[1] = t;
        }

        void weigh(Table table, int salt) {
            for (int way = 0; way < WAYS; way++) {
                tryWay(table, salt, way);
            }
            steady = 0;
            firstSteady = NONE;
            for (int way = WAYS - 1; way >= 0; way--) {
                // The first one does otherwise by the bit of 2, the other one by that of 1.
                if (firstHas[way] >= firstHas[way ^ 2] && otherHas[way] >= otherHas[way ^ 1]) {
                    steady++;
                    firstSteady = way;
                }
            }
        }

        private void tryWay(Table table, int salt, int way) {
            boolean firstLies = (way & 2) == 0;
            boolean otherLies = (way & 1) == 0;
            probe.clear();
            if (firstLies) {
                lie(table, 0);
            }
            if (otherLies) {
                lie(table, 1);
            }
            int to = table.landing(table.law, table.truths, salt, probe);
            firstHas[way] = gain(table, 0, to, firstLies);
            otherHas[way] = gain(table, 1, to, otherLies);
        }

        private void lie(Table table, int k) {
            probe.add(who[k], topic[k], !Table.isSo(table.truths, topic[k]));
        }

        private int gain(Table table, int k, int salt, boolean lies) {
            return (salt == who[k] ? WORTH : 0) - (lies ? table.tally(who[k], topic[k]) : 0);
        }
    }

    /** What is TOLD, and BELIEVE. */
    private static final class Sayings {
        private static final int MOST = 8;
        // Euclid's steps for two numbers up to 2 times 10 to the 8th are fewer.
        private static final int STEPS_MOST = 64;

        int size;
        private final int[] who = new int[MOST];
        private final boolean[] said = new boolean[MOST];

        void clear() {
            size = 0;
        }

        boolean add(int i, boolean so) {
            if (size >= MOST) {
                return false;
            }
            who[size] = i;
            said[size] = so;
            size++;
            return true;
        }

        long chance(Table table, boolean above) {
            long so = 1;
            long not = 1;
            for (int k = 0; k < size; k++) {
                int honesty = table.honesty[who[k]];
                so *= said[k] ? honesty : 10 - honesty;
                not *= said[k] ? 10 - honesty : honesty;
            }
            long all = so + not;
            long shared = commonDivisor(all, so);
            // Only of 0 and 0 it is 0: neither can be.
            if (shared == 0) {
                return NONE;
            }
            return above ? so / shared : all / shared;
        }

        private static long commonDivisor(long a, long b) {
            for (int step = 0; step < STEPS_MOST && b != 0; step++) {
                long rest = a % b;
                a = b;
                b = rest;
            }
            return a;
        }
    }

    /** A DINNER. */
    private static final class Feast {
        int salt, untruths;
        private final Round probe = new Round();

        void hold(Table table, int from, int z, int rounds) {
            salt = from;
            untruths = 0;
            for (int k = 0; k < rounds; k++) {
                int draw = drawn(z, k);
                int i = Table.remainder(draw, table.guests);
                int t = Table.remainder(draw / 8, table.things);
                boolean honest = draw / 64 % 10 < table.honesty[i];
                probe.clear();
                probe.add(i, t, Table.isSo(table.truths, t) == honest);
                salt = table.landing(table.law, table.truths, salt, probe);
                untruths += honest ? 0 : 1;
            }
        }

        private static int drawn(int z, int k) {
            long x = 7919L * z + 6151L * k + 1;
            return (int) (x * x % 65521 / 8);
        }
    }
}
