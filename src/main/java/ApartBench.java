import java.util.Arrays;
import java.util.NoSuchElementException;

/** Judges who never meet, and the news of what they said; ../shared/DOC.md has the promises. */
public final class ApartBench {
    public static final int NONE = -1;

    private static final int MOST_BYTES = 600;
    private static final int MOST_TOWNS = 9;
    private static final int MOST_ROADS = 14;
    private static final int MOST_JUDGES = 5;
    private static final int MOST_STOPS = 7;
    private static final int MOST_CASES = 6;
    private static final int MOST_PROOFS = 6;
    private static final int MOST_YEARS = 40;

    private static final int LAST_START = 60;
    private static final int LAST_ACT_DAY = 99;
    private static final int WIDEST_FLOOD = 20;
    private static final int NOT_GUILTY_ANYWAY = -2;

    private static final int DEAF = 1;
    private static final int WISE = 2;

    private static final int REFUSED_TEXT = 0;
    private static final int REFUSED_ACT = 1;
    private static final int REFUSED_SEEN = 2;

    private final byte[] tape = new byte[MOST_BYTES];
    private int tapeSize;
    private Land land = new Land();
    private Land draft = new Land();
    private final Reader reader = new Reader(tape, draft);
    private final Bench bench = new Bench();
    private final Bench kept = new Bench();
    private boolean hasImage;
    private final Court court = new Court(land, bench);
    private final Court trial = new Court(land, bench);
    private boolean settled;
    private int faultPlace = NONE;

    public ApartBench() {
    }

    public int feed(int a, int b, int c, int d, int e) {
        if (tapeSize + 20 > MOST_BYTES) {
            return NONE;
        }
        putBytes(a);
        putBytes(b);
        putBytes(c);
        putBytes(d);
        putBytes(e);
        return tapeSize;
    }

    private void putBytes(int number) {
        for (int shift = 24; shift >= 0 && tapeSize < MOST_BYTES; shift -= 8) {
            tape[tapeSize] = (byte) (number >>> shift);
            tapeSize++;
        }
    }

    public int land(int n) throws IllegalArgumentException {
        if (n < 0 || n > tapeSize) {
            throw new IllegalArgumentException("the tape has not so many bytes");
        }
        tapeSize = 0;
        reader.readLand(n, draft);
        faultPlace = reader.place;
        if (reader.fault != 0) {
            bench.refused[REFUSED_TEXT]++;
            return reader.fault;
        }
        // The old land is the next draft: a text with a fault must leave the one in use alone.
        Land old = land;
        land = draft;
        draft = old;
        bench.beginAnew(land);
        hasImage = false;
        settled = false;
        return 0;
    }

    public int fault() {
        return faultPlace;
    }

    public int count(int what) throws NoSuchElementException {
        switch (what) {
            case 0: return land.towns;
            case 1: return land.roads;
            case 2: return land.gossipTenths();
            case 3: return land.judges;
            case 4: return land.cases;
            case 5: return bench.inns;
            case 6: return bench.words.size;
            case 7: return bench.feasts.size;
            case 8: return bench.floods.size;
            case 9: return settledCourt().howManyGuilty();
            case 10: return bench.acts.size;
            case 11: return bench.seen.size;
            case 12: return tapeSize;
            case 13: return bench.refused[REFUSED_TEXT];
            case 14: return bench.refused[REFUSED_ACT];
            case 15: return bench.refused[REFUSED_SEEN];
            default: throw new NoSuchElementException("no such count");
        }
    }

    public int far(int town, int other, int what) throws NoSuchElementException {
        requireTown(town);
        requireTown(other);
        requireWhat(what, 1);
        return what == 0 ? land.roadDays[town][other] : land.newsDays[town][other];
    }

    public int judge(int judge, int what) throws NoSuchElementException {
        requireJudge(judge);
        requireWhat(what, 4);
        switch (what) {
            case 0: return land.kind[judge];
            case 1: return bench.days[judge];
            case 2: return land.harsh[judge];
            case 3: return land.stops[judge];
            default: return settledCourt().lastDay(judge);
        }
    }

    public int stop(int judge, int i, int what) throws NoSuchElementException {
        requireJudge(judge);
        requireWhat(what, 1);
        if (i < 0 || i >= land.stops[judge]) {
            throw new NoSuchElementException("no such stop");
        }
        return what == 0 ? land.route[judge][i] : settledCourt().stopDay[judge][i];
    }

    public int where(int judge, int day) throws NoSuchElementException {
        requireJudge(judge);
        return settledCourt().townOn(judge, day);
    }

    public int proof(int cause, int town) throws NoSuchElementException {
        requireCase(cause);
        requireTown(town);
        return land.proofs[cause][town];
    }

    public int said(int cause, int judge, int what) throws NoSuchElementException {
        requireCase(cause);
        requireJudge(judge);
        requireWhat(what, 3);
        Court now = settledCourt();
        switch (what) {
            case 0: return now.saidGuilty[cause][judge];
            case 1: return now.saidDay[cause][judge];
            case 2: return now.saidTown[cause][judge];
            default: return now.voids(cause) >>> judge & 1;
        }
    }

    public int met(int judge, int other) throws NoSuchElementException, IllegalArgumentException {
        requireJudge(judge);
        requireJudge(other);
        if (judge == other) {
            throw new IllegalArgumentException("both are one judge");
        }
        return settledCourt().metDay[judge][other];
    }

    public int guilty(int cause, int what) throws NoSuchElementException {
        requireCase(cause);
        requireWhat(what, 1);
        Court now = settledCourt();
        return what == 0 ? now.trioDay(cause) : now.trios[cause];
    }

    public int news(int cause, int town) throws NoSuchElementException {
        requireCase(cause);
        requireTown(town);
        return settledCourt().firstNews(cause, town);
    }

    public int start(int judge, int day) throws NoSuchElementException {
        requireJudge(judge);
        if (isOutside(day, LAST_START)) {
            return refuseAct();
        }
        int before = bench.days[judge];
        bench.days[judge] = day;
        keepAct(Bench.START, judge, before);
        return before;
    }

    public boolean inn(int town, boolean built) throws NoSuchElementException {
        requireTown(town);
        if ((bench.inns >>> town & 1) == (built ? 1 : 0)) {
            refuseAct();
            return false;
        }
        bench.inns ^= 1 << town;
        keepAct(Bench.INN, town, 0);
        return true;
    }

    public int word(int cause, int town, int day) throws NoSuchElementException {
        requireCase(cause);
        requireTown(town);
        if (bench.words.isFull() || isOutside(day, LAST_ACT_DAY)) {
            return refuseAct();
        }
        bench.words.add(cause, town, day);
        keepAct(Bench.WORD, town, 0);
        return bench.words.size;
    }

    public int feast(int town, int from, int to) throws NoSuchElementException {
        requireTown(town);
        if (bench.feasts.isFull() || isOutside(from, LAST_ACT_DAY) || isOutside(to, LAST_ACT_DAY) || to < from) {
            return refuseAct();
        }
        bench.feasts.add(town, from, to);
        keepAct(Bench.FEAST, town, 0);
        return bench.feasts.size;
    }

    public int flood(int town, int day, int wide) throws NoSuchElementException {
        requireTown(town);
        if (bench.floods.isFull() || isOutside(day, LAST_ACT_DAY) || isOutside(wide, WIDEST_FLOOD)) {
            return refuseAct();
        }
        bench.floods.add(town, day, wide);
        keepAct(Bench.FLOOD, town, 0);
        return bench.floods.size;
    }

    public int undo() {
        if (bench.acts.size == 0) {
            return NONE;
        }
        bench.takeBackLastAct();
        settled = false;
        return bench.acts.size;
    }

    public int burn(int what) throws NoSuchElementException {
        requireWhat(what, 1);
        trial.load(land, bench);
        trial.hearAll();
        int best = NONE;
        int most = NONE;
        for (int town = 0; town < land.towns; town++) {
            if ((bench.inns >>> town & 1) == 1) {
                trial.meetAll(bench.inns & ~(1 << town));
                trial.decideAll();
                int many = trial.howManyGuilty();
                if (many > most) {
                    most = many;
                    best = town;
                }
            }
        }
        return what == 0 ? best : most;
    }

    public int when(int judge, int what) throws NoSuchElementException {
        requireJudge(judge);
        requireWhat(what, 1);
        trial.load(land, bench);
        int best = NONE;
        int most = NONE;
        for (int day = 0; day <= LAST_START; day++) {
            trial.sendOut(judge, day, false);
            trial.settle();
            int many = trial.howManyGuilty();
            if (many > most) {
                most = many;
                best = day;
            }
        }
        return what == 0 ? best : most;
    }

    public int round(int judge) throws NoSuchElementException {
        requireJudge(judge);
        trial.load(land, bench);
        trial.sendOut(judge, bench.days[judge], true);
        trial.settle();
        return trial.howManyGuilty() - settledCourt().howManyGuilty();
    }

    public int free(int cause, int what) throws NoSuchElementException {
        requireCase(cause);
        requireWhat(what, 1);
        Court now = settledCourt();
        if (now.trios[cause] == 0) {
            return NOT_GUILTY_ANYWAY;
        }
        for (int day = 0; day <= LAST_START; day++) {
            for (int town = 0; town < land.towns; town++) {
                if (now.trioWith(cause, now.reachedByWord(cause, town, day), now.deafs) == 0) {
                    return what == 0 ? day : town;
                }
            }
        }
        return NONE;
    }

    public int mercy(int cause) throws NoSuchElementException {
        requireCase(cause);
        Court now = settledCourt();
        int best = NONE;
        int fewest = MOST_JUDGES + 1;
        for (int mules = 0; mules < 1 << land.judges; mules++) {
            int many = Integer.bitCount(mules);
            if (many < fewest && (mules & now.deafs) == 0 && now.trioWith(cause, mules, now.deafs) == 0) {
                best = mules;
                fewest = many;
            }
        }
        return best;
    }

    public int deaf(int judge) throws NoSuchElementException {
        requireJudge(judge);
        Court now = settledCourt();
        int many = 0;
        for (int cause = 0; cause < land.cases; cause++) {
            if (now.trioWith(cause, 0, now.deafs ^ 1 << judge) != 0) {
                many++;
            }
        }
        return many;
    }

    public int soonest(int what) throws NoSuchElementException {
        requireWhat(what, 1);
        Court now = settledCourt();
        int found = NONE;
        for (int cause = 0; cause < land.cases; cause++) {
            int day = now.trioDay(cause);
            if (day != NONE && (found == NONE || (what == 0 ? day < found : day > found))) {
                found = day;
            }
        }
        return found;
    }

    public int see(int cause, int judge, boolean isVoid) throws NoSuchElementException {
        requireCase(cause);
        requireJudge(judge);
        if (bench.seen.isFull()) {
            bench.refused[REFUSED_SEEN]++;
            return NONE;
        }
        bench.seen.add(cause, judge, isVoid ? 1 : 0);
        return bench.seen.size;
    }

    public int forget() {
        if (bench.seen.size == 0) {
            return NONE;
        }
        bench.seen.dropLast();
        return bench.seen.size;
    }

    public int sent(int cause, int what) throws NoSuchElementException {
        requireCase(cause);
        requireWhat(what, 2);
        Court now = settledCourt();
        if (what == 2) {
            return now.isAllAsSeen(cause, 0) ? 1 : 0;
        }
        int many = 0;
        int first = NONE;
        for (int day = 0; day <= LAST_START; day++) {
            for (int town = 0; town < land.towns; town++) {
                if (now.isAllAsSeen(cause, now.reachedByWord(cause, town, day))) {
                    many++;
                    first = first == NONE ? 100 * day + town : first;
                }
            }
        }
        return what == 0 ? many : first;
    }

    public int game(int cause, int what) throws NoSuchElementException {
        requireCase(cause);
        requireWhat(what, 1);
        Court now = settledCourt();
        now.playGame(cause);
        int many = 0;
        int first = NONE;
        for (int one = 0; one < land.judges; one++) {
            for (int other = 0; other < land.judges; other++) {
                if (now.rests(one, other)) {
                    many++;
                    first = first == NONE ? 10 * one + other : first;
                }
            }
        }
        return what == 0 ? many : first;
    }

    public int season(int seed, int n, int what) throws NoSuchElementException, IllegalArgumentException {
        requireWhat(what, 2);
        if (isOutside(n, MOST_YEARS)) {
            throw new IllegalArgumentException("not 0 to 40 years");
        }
        trial.load(land, bench);
        trial.hearAll();
        Draws draws = new Draws(seed);
        int all = 0;
        int fewest = n == 0 ? 0 : MOST_CASES;
        int fullYears = 0;
        for (int year = 0; year < n; year++) {
            int many = guiltyInYear(draws);
            all += many;
            fewest = Math.min(fewest, many);
            fullYears += many == land.cases ? 1 : 0;
        }
        return what == 0 ? all : what == 1 ? fewest : fullYears;
    }

    private int guiltyInYear(Draws draws) {
        trial.meetAll(bench.inns);
        for (int i = 0; i < 2 && land.towns > 0; i++) {
            int town = draws.draw(land.towns);
            int day = draws.draw(30);
            int wide = draws.draw(6);
            trial.meetInFlood(town, day, wide);
        }
        trial.decideAll();
        return trial.howManyGuilty();
    }

    public void image() {
        kept.copyFrom(bench);
        hasImage = true;
    }

    public boolean restore() {
        if (!hasImage) {
            return false;
        }
        bench.copyFrom(kept);
        settled = false;
        return true;
    }

    private Court settledCourt() {
        if (!settled) {
            court.load(land, bench);
            court.settle();
            settled = true;
        }
        return court;
    }

    private void keepAct(int kind, int who, int before) {
        bench.acts.add(kind, who, before);
        settled = false;
    }

    private int refuseAct() {
        bench.refused[REFUSED_ACT]++;
        return NONE;
    }

    private static boolean isOutside(int number, int most) {
        return number < 0 || number > most;
    }

    private void requireTown(int town) {
        if (town < 0 || town >= land.towns) {
            throw new NoSuchElementException("no such town");
        }
    }

    private void requireJudge(int judge) {
        if (judge < 0 || judge >= land.judges) {
            throw new NoSuchElementException("no such judge");
        }
    }

    private void requireCase(int cause) {
        if (cause < 0 || cause >= land.cases) {
            throw new NoSuchElementException("no such case");
        }
    }

    private static void requireWhat(int what, int most) {
        if (isOutside(what, most)) {
            throw new NoSuchElementException("no such what");
        }
    }

    /** Rows of three numbers, the latest one last; one too many pushes the first one out. */
    private static final class Rows {
        final int[] first;
        final int[] second;
        final int[] third;
        int size;

        Rows(int most) {
            int room = Math.max(most, 1);
            first = new int[room];
            second = new int[room];
            third = new int[room];
        }

        boolean isFull() {
            return size >= first.length;
        }

        void add(int a, int b, int c) {
            if (isFull()) {
                dropFirst();
            }
            first[size] = a;
            second[size] = b;
            third[size] = c;
            size++;
        }

        private void dropFirst() {
            if (size > 0) {
                size--;
                System.arraycopy(first, 1, first, 0, size);
                System.arraycopy(second, 1, second, 0, size);
                System.arraycopy(third, 1, third, 0, size);
            }
        }

        void dropLast() {
            if (size > 0) {
                size--;
            }
        }

        void copyFrom(Rows other) {
            size = Math.min(other.size, first.length);
            System.arraycopy(other.first, 0, first, 0, size);
            System.arraycopy(other.second, 0, second, 0, size);
            System.arraycopy(other.third, 0, third, 0, size);
        }
    }

    /** Numbers that look like chance, by a seed. */
    private static final class Draws {
        private int seed;

        Draws(int seed) {
            this.seed = seed;
        }

        int draw(int n) {
            seed = seed * 1103515245 + 12345;
            int bits = seed >>> 16 & 0x7fff;
            return n > 0 ? bits % n : 0;
        }
    }

    /** All that an image keeps. */
    private static final class Bench {
        static final int START = 0;
        static final int INN = 1;
        static final int WORD = 2;
        static final int FEAST = 3;
        static final int FLOOD = 4;

        final int[] days = new int[MOST_JUDGES];
        int inns;
        final Rows words = new Rows(4);
        final Rows feasts = new Rows(4);
        final Rows floods = new Rows(4);
        final Rows acts = new Rows(40);
        final Rows seen = new Rows(8);
        final int[] refused = new int[3];

        /** What was refused stays: it is told of the object's calls, not of one land. */
        void beginAnew(Land land) {
            System.arraycopy(land.firstDay, 0, days, 0, MOST_JUDGES);
            inns = land.inns;
            words.size = 0;
            feasts.size = 0;
            floods.size = 0;
            acts.size = 0;
            seen.size = 0;
        }

        void copyFrom(Bench other) {
            System.arraycopy(other.days, 0, days, 0, MOST_JUDGES);
            inns = other.inns;
            words.copyFrom(other.words);
            feasts.copyFrom(other.feasts);
            floods.copyFrom(other.floods);
            acts.copyFrom(other.acts);
            seen.copyFrom(other.seen);
            System.arraycopy(other.refused, 0, refused, 0, refused.length);
        }

        void takeBackLastAct() {
            if (acts.size == 0) {
                return;
            }
            acts.dropLast();
            int who = acts.second[acts.size];
            switch (acts.first[acts.size]) {
                case START:
                    days[who] = acts.third[acts.size];
                    break;
                case INN:
                    inns ^= 1 << who;
                    break;
                case WORD:
                    words.dropLast();
                    break;
                case FEAST:
                    feasts.dropLast();
                    break;
                default:
                    floods.dropLast();
                    break;
            }
        }
    }

    /** A rule in postfix: numbers as they are, then the values of one who hears, then what joins them. */
    private static final class Law {
        static final int MOST_NUMBER = 9999;
        static final int PROOF = 10000;
        static final int HARSH = 10001;
        static final int DAY = 10002;
        static final int TOWN = 10003;
        static final int SAID = 10004;
        static final int OR = 10005;
        static final int AND = 10006;
        static final int NOT = 10007;
        static final int LESS = 10008;
        static final int EQUAL = 10009;
        static final int PLUS = 10010;
        static final int MINUS = 10011;
        static final int TIMES = 10012;
        static final int DIVIDE = 10013;

        private final int[] code = new int[MOST_BYTES];
        private int length;
        // Six expressions one within the other leave five numbers waiting each, and one comes last.
        private final int[] stack = new int[40];
        private final int[] values = new int[5];

        void clear() {
            length = 0;
        }

        boolean isTold() {
            return length > 0;
        }

        void add(int op) {
            if (length < code.length) {
                code[length] = op;
                length++;
            }
        }

        int gives(int proof, int harsh, int day, int town, int before) {
            if (length == 0) {
                return proof > 4 ? 1 : 0;
            }
            values[0] = proof;
            values[1] = harsh;
            values[2] = day;
            values[3] = town;
            values[4] = before;
            int top = 0;
            for (int i = 0; i < length; i++) {
                int op = code[i];
                if (op <= SAID) {
                    if (top < stack.length) {
                        stack[top] = op <= MOST_NUMBER ? op : values[op - PROOF];
                        top++;
                    }
                } else if (op == NOT) {
                    if (top >= 1) {
                        stack[top - 1] = stack[top - 1] == 0 ? 1 : 0;
                    }
                } else if (top >= 2) {
                    top--;
                    stack[top - 1] = join(op, stack[top - 1], stack[top]);
                }
            }
            return stack[0];
        }

        private static int join(int op, int a, int b) {
            switch (op) {
                case OR: return a != 0 || b != 0 ? 1 : 0;
                case AND: return a != 0 && b != 0 ? 1 : 0;
                case LESS: return a < b ? 1 : 0;
                case EQUAL: return a == b ? 1 : 0;
                case PLUS: return a + b;
                case MINUS: return a - b;
                case TIMES: return a * b;
                default: return b == 0 ? 0 : a / b;
            }
        }
    }

    /** What a text tells; no act changes it. */
    private static final class Land {
        int towns;
        int inns;
        int roads;
        int gossip;
        final int[][] road = new int[MOST_TOWNS][MOST_TOWNS];
        final int[][] roadDays = new int[MOST_TOWNS][MOST_TOWNS];
        final int[][] newsDays = new int[MOST_TOWNS][MOST_TOWNS];
        int judges;
        final int[] kind = new int[MOST_JUDGES];
        final int[] firstDay = new int[MOST_JUDGES];
        final int[] harsh = new int[MOST_JUDGES];
        final int[] stops = new int[MOST_JUDGES];
        final int[][] route = new int[MOST_JUDGES][MOST_STOPS];
        int cases;
        final int[][] proofs = new int[MOST_CASES][MOST_TOWNS];
        final Law law = new Law();

        void clear() {
            towns = 0;
            inns = 0;
            roads = 0;
            gossip = 0;
            judges = 0;
            cases = 0;
            law.clear();
            for (int i = 0; i < MOST_TOWNS; i++) {
                Arrays.fill(road[i], 0);
            }
            for (int i = 0; i < MOST_CASES; i++) {
                Arrays.fill(proofs[i], NONE);
            }
        }

        int gossipTenths() {
            return gossip == 0 ? 10 : gossip;
        }

        boolean isJoined(int town, int other) {
            return road[town][other] > 0;
        }

        /** The shortest ways, once all roads are told. */
        void measureWays() {
            for (int a = 0; a < towns; a++) {
                for (int b = 0; b < towns; b++) {
                    roadDays[a][b] = a == b ? 0 : isJoined(a, b) ? road[a][b] : NONE;
                }
            }
            for (int by = 0; by < towns; by++) {
                for (int a = 0; a < towns; a++) {
                    shortenWaysBy(by, a);
                }
            }
            for (int a = 0; a < towns; a++) {
                for (int b = 0; b < towns; b++) {
                    int days = roadDays[a][b];
                    newsDays[a][b] = days == NONE ? NONE : (days * gossipTenths() + 9) / 10;
                }
            }
        }

        private void shortenWaysBy(int by, int from) {
            int ahead = roadDays[from][by];
            for (int to = 0; to < towns && ahead != NONE; to++) {
                int rest = roadDays[by][to];
                if (rest != NONE && (roadDays[from][to] == NONE || ahead + rest < roadDays[from][to])) {
                    roadDays[from][to] = ahead + rest;
                }
            }
        }
    }

    /** Reads a text into a land, token by token, up to its first fault. */
    private static final class Reader {
        private static final int CANNOT_STAND = 1;
        private static final int TOO_MUCH = 2;
        private static final int NOT_TOLD = 3;
        private static final int ALREADY = 4;
        private static final int SECOND = 5;
        private static final int NOT_JOINED = 6;

        private static final int END = 0;
        private static final int WORD = 1;
        private static final int NUMBER = 2;
        private static final int SIGN = 3;
        private static final int NO_TOKEN = 4;

        private static final int MOST_DIGITS = 4;
        private static final int MOST_DEPTH = 6;
        private static final int MOST_NOTS = 6;

        int fault;
        int place = NONE;
        private final byte[] text;
        private int length;
        private Land land;
        private int kind;
        private int begin;
        private int end;

        Reader(byte[] text, Land land) {
            this.text = text;
            this.land = land;
        }

        void readLand(int n, Land draft) {
            length = Math.min(n, text.length);
            land = draft;
            land.clear();
            fault = 0;
            place = NONE;
            end = 0;
            advance();
            for (int i = 0; i < MOST_BYTES && fault == 0 && kind != END; i++) {
                readLine();
            }
            if (fault == 0) {
                land.measureWays();
            }
        }

        private void readLine() {
            if (isWord("town")) {
                readTown();
            } else if (isWord("road")) {
                readRoad();
            } else if (isWord("gossip")) {
                readGossip();
            } else if (isWord("judge")) {
                readJudge(0);
            } else if (isWord("deaf")) {
                readJudge(DEAF);
            } else if (isWord("wise")) {
                readJudge(WISE);
            } else if (isWord("case")) {
                readCase();
            } else if (isWord("law")) {
                readLaw();
            } else {
                refuse(CANNOT_STAND);
            }
            takeSign(';');
        }

        private void readTown() {
            if (land.towns >= MOST_TOWNS) {
                refuse(TOO_MUCH);
                return;
            }
            advance();
            if (isWord("inn")) {
                land.inns |= 1 << land.towns;
                advance();
            }
            land.towns++;
        }

        private void readRoad() {
            if (land.roads >= MOST_ROADS) {
                refuse(TOO_MUCH);
                return;
            }
            advance();
            int town = lookAtTown();
            advance();
            int other = lookAtTown();
            if (fault == 0 && (town == other || land.isJoined(town, other))) {
                refuse(ALREADY);
            }
            advance();
            int days = takeNumber(1, 9);
            if (fault == 0) {
                land.road[town][other] = days;
                land.road[other][town] = days;
                land.roads++;
            }
        }

        private void readGossip() {
            if (land.gossip != 0) {
                refuse(SECOND);
                return;
            }
            advance();
            land.gossip = takeNumber(1, 40);
        }

        private void readJudge(int judgeKind) {
            int judge = land.judges;
            if (judge >= MOST_JUDGES) {
                refuse(TOO_MUCH);
                return;
            }
            advance();
            land.kind[judge] = judgeKind;
            land.firstDay[judge] = takeNumber(0, LAST_START);
            land.harsh[judge] = takeNumber(0, 9);
            int ahead = NONE;
            for (int i = 0; i <= MOST_STOPS && (i == 0 || kind == NUMBER); i++) {
                ahead = readStop(judge, i, ahead);
            }
            land.judges++;
        }

        private int readStop(int judge, int i, int ahead) {
            if (i >= MOST_STOPS) {
                refuse(TOO_MUCH);
                return NONE;
            }
            int town = lookAtTown();
            if (fault == 0 && ahead != NONE && !land.isJoined(ahead, town)) {
                refuse(NOT_JOINED);
            }
            land.route[judge][i] = town;
            land.stops[judge] = i + 1;
            advance();
            return town;
        }

        private void readCase() {
            int cause = land.cases;
            if (cause >= MOST_CASES) {
                refuse(TOO_MUCH);
                return;
            }
            advance();
            for (int i = 0; i <= MOST_PROOFS && (i == 0 || kind == NUMBER); i++) {
                readProof(cause, i);
            }
            land.cases++;
        }

        private void readProof(int cause, int i) {
            if (i >= MOST_PROOFS) {
                refuse(TOO_MUCH);
                return;
            }
            int town = lookAtTown();
            if (fault == 0 && land.proofs[cause][town] != NONE) {
                refuse(ALREADY);
            }
            advance();
            int strength = takeNumber(0, 9);
            if (fault == 0) {
                land.proofs[cause][town] = strength;
            }
        }

        private void readLaw() {
            if (land.law.isTold()) {
                refuse(SECOND);
                return;
            }
            advance();
            readExpr(0);
        }

        private void readExpr(int depth) {
            if (depth >= MOST_DEPTH) {
                refuse(kind == NUMBER || kind == WORD || isSign('(') ? TOO_MUCH : CANNOT_STAND);
                return;
            }
            readAnd(depth);
            for (int i = 0; i < MOST_BYTES && isWord("or"); i++) {
                advance();
                readAnd(depth);
                land.law.add(Law.OR);
            }
        }

        private void readAnd(int depth) {
            readNot(depth);
            for (int i = 0; i < MOST_BYTES && isWord("and"); i++) {
                advance();
                readNot(depth);
                land.law.add(Law.AND);
            }
        }

        private void readNot(int depth) {
            int nots = 0;
            while (nots <= MOST_NOTS && isWord("not")) {
                if (nots == MOST_NOTS) {
                    refuse(TOO_MUCH);
                }
                advance();
                nots++;
            }
            readTest(depth);
            for (int i = 0; i < nots; i++) {
                land.law.add(Law.NOT);
            }
        }

        private void readTest(int depth) {
            readSum(depth);
            int test = isSign('<') ? Law.LESS : isSign('=') ? Law.EQUAL : NONE;
            if (test != NONE) {
                advance();
                readSum(depth);
                land.law.add(test);
            }
        }

        private void readSum(int depth) {
            readProduct(depth);
            for (int i = 0; i < MOST_BYTES && (isSign('+') || isSign('-')); i++) {
                int op = isSign('+') ? Law.PLUS : Law.MINUS;
                advance();
                readProduct(depth);
                land.law.add(op);
            }
        }

        private void readProduct(int depth) {
            readPart(depth);
            for (int i = 0; i < MOST_BYTES && (isSign('*') || isSign('/')); i++) {
                int op = isSign('*') ? Law.TIMES : Law.DIVIDE;
                advance();
                readPart(depth);
                land.law.add(op);
            }
        }

        private void readPart(int depth) {
            if (kind == NUMBER) {
                land.law.add(takeNumber(0, Law.MOST_NUMBER));
            } else if (kind == WORD) {
                readValue();
            } else if (isSign('(')) {
                advance();
                readExpr(depth + 1);
                takeSign(')');
            } else {
                refuse(CANNOT_STAND);
            }
        }

        private void readValue() {
            if (isWord("proof")) {
                land.law.add(Law.PROOF);
            } else if (isWord("harsh")) {
                land.law.add(Law.HARSH);
            } else if (isWord("day")) {
                land.law.add(Law.DAY);
            } else if (isWord("town")) {
                land.law.add(Law.TOWN);
            } else if (isWord("said")) {
                land.law.add(Law.SAID);
            } else {
                refuse(NOT_TOLD);
            }
            advance();
        }

        /** The token in hand as a told town; NONE behind a fault. */
        private int lookAtTown() {
            int town = lookAtNumber(0, Law.MOST_NUMBER);
            if (town >= land.towns) {
                refuse(NOT_TOLD);
            }
            return fault == 0 ? town : NONE;
        }

        private int takeNumber(int least, int most) {
            int taken = lookAtNumber(least, most);
            advance();
            return taken;
        }

        private int lookAtNumber(int least, int most) {
            if (kind != NUMBER) {
                refuse(CANNOT_STAND);
                return NONE;
            }
            int number = 0;
            for (int i = begin; i < end; i++) {
                number = number * 10 + (text[i] - '0');
            }
            if (end - begin > MOST_DIGITS || number < least || number > most) {
                refuse(TOO_MUCH);
            }
            return number;
        }

        private void takeSign(char sign) {
            if (!isSign(sign)) {
                refuse(CANNOT_STAND);
            }
            advance();
        }

        /** Only the first fault is told; behind it no token is seen, so that all reading ends. */
        private void refuse(int what) {
            if (fault == 0) {
                fault = what;
                place = begin;
                kind = NO_TOKEN;
            }
        }

        private boolean isSign(char sign) {
            return kind == SIGN && text[begin] == sign;
        }

        private boolean isWord(String word) {
            if (kind != WORD || end - begin != word.length()) {
                return false;
            }
            for (int i = 0; i < word.length(); i++) {
                if (text[begin + i] != word.charAt(i)) {
                    return false;
                }
            }
            return true;
        }

        private void advance() {
            if (fault != 0) {
                return;
            }
            begin = end;
            while (begin < length && (text[begin] == ' ' || text[begin] == '\n')) {
                begin++;
            }
            kind = begin < length ? kindOf(text[begin]) : END;
            end = Math.min(begin + 1, length);
            while (end < length && (kind == WORD || kind == NUMBER) && kindOf(text[end]) == kind) {
                end++;
            }
        }

        private static int kindOf(byte b) {
            if (b >= 'a' && b <= 'z') {
                return WORD;
            }
            if (b >= '0' && b <= '9') {
                return NUMBER;
            }
            switch (b) {
                case ';': case '(': case ')': case '+': case '-': case '*': case '/': case '<': case '=':
                    return SIGN;
                default:
                    return NO_TOKEN;
            }
        }
    }

    /** Who goes where, who says what, whom news reaches, who meets whom, who is guilty: as it is, or tried. */
    private static final class Court {
        private Land land;
        private Bench bench;
        int deafs;
        final int[][] stopTown = new int[MOST_JUDGES][MOST_STOPS];
        final int[][] stopDay = new int[MOST_JUDGES][MOST_STOPS];
        final int[][] saidDay = new int[MOST_CASES][MOST_JUDGES];
        final int[][] saidTown = new int[MOST_CASES][MOST_JUDGES];
        final int[][] saidGuilty = new int[MOST_CASES][MOST_JUDGES];
        // Whom news reached in time, as bits, deaf or not: what deafness changes is then seen without hearing anew.
        private final int[] reached = new int[MOST_CASES];
        final int[][] metDay = new int[MOST_JUDGES][MOST_JUDGES];
        final int[] trios = new int[MOST_CASES];
        private final int[] nextStop = new int[MOST_JUDGES];
        private final int[] wins = new int[MOST_JUDGES];

        Court(Land land, Bench bench) {
            this.land = land;
            this.bench = bench;
        }

        void load(Land newLand, Bench newBench) {
            land = newLand;
            bench = newBench;
            deafs = 0;
            for (int judge = 0; judge < land.judges; judge++) {
                sendOut(judge, bench.days[judge], false);
                if (land.kind[judge] == DEAF) {
                    deafs |= 1 << judge;
                }
            }
        }

        void sendOut(int judge, int firstDay, boolean backward) {
            int many = land.stops[judge];
            int day = firstDay;
            for (int i = 0; i < many; i++) {
                int town = land.route[judge][backward ? many - 1 - i : i];
                if (i > 0) {
                    day += land.road[stopTown[judge][i - 1]][town];
                }
                stopTown[judge][i] = town;
                stopDay[judge][i] = day;
            }
        }

        void settle() {
            hearAll();
            meetAll(bench.inns);
            decideAll();
        }

        int lastDay(int judge) {
            int many = land.stops[judge];
            return many == 0 ? NONE : stopDay[judge][many - 1];
        }

        int townOn(int judge, int day) {
            for (int i = 0; i < land.stops[judge]; i++) {
                if (stopDay[judge][i] == day) {
                    return stopTown[judge][i];
                }
            }
            return NONE;
        }

        void hearAll() {
            for (int cause = 0; cause < land.cases; cause++) {
                Arrays.fill(saidDay[cause], NONE);
                Arrays.fill(saidTown[cause], NONE);
                Arrays.fill(saidGuilty[cause], NONE);
            }
            Arrays.fill(nextStop, 0);
            for (int turn = 0; turn < MOST_JUDGES * MOST_STOPS; turn++) {
                int judge = nextWhoComes();
                if (judge != NONE) {
                    int i = nextStop[judge];
                    nextStop[judge]++;
                    hearIn(stopTown[judge][i], judge, stopDay[judge][i]);
                }
            }
            for (int cause = 0; cause < land.cases; cause++) {
                reached[cause] = reachedByAny(cause);
            }
        }

        /** Whose next stop is on the least day, of like ones the least judge; NONE: all have gone round. */
        private int nextWhoComes() {
            int next = NONE;
            int least = 0;
            for (int judge = 0; judge < land.judges; judge++) {
                int i = nextStop[judge];
                if (i < land.stops[judge] && (next == NONE || stopDay[judge][i] < least)) {
                    next = judge;
                    least = stopDay[judge][i];
                }
            }
            return next;
        }

        private void hearIn(int town, int judge, int day) {
            if (isFeast(town, day)) {
                return;
            }
            for (int cause = 0; cause < land.cases; cause++) {
                int strength = land.proofs[cause][town];
                if (strength != NONE && saidDay[cause][judge] == NONE) {
                    int before = howManySaidBefore(cause, day);
                    boolean holds = land.law.gives(strength, land.harsh[judge], day, town, before) > 0;
                    boolean isWise = land.kind[judge] == WISE;
                    saidGuilty[cause][judge] = holds != isWise ? 1 : 0;
                    saidDay[cause][judge] = day;
                    saidTown[cause][judge] = town;
                }
            }
        }

        private boolean isFeast(int town, int day) {
            Rows feasts = bench.feasts;
            for (int i = 0; i < feasts.size; i++) {
                if (feasts.first[i] == town && feasts.second[i] <= day && day <= feasts.third[i]) {
                    return true;
                }
            }
            return false;
        }

        private int howManySaidBefore(int cause, int day) {
            int many = 0;
            for (int judge = 0; judge < land.judges; judge++) {
                if (saidDay[cause][judge] != NONE && saidDay[cause][judge] < day) {
                    many++;
                }
            }
            return many;
        }

        private int reachedByAny(int cause) {
            int bits = 0;
            for (int judge = 0; judge < land.judges; judge++) {
                for (int other = 0; other < land.judges; other++) {
                    // What he said himself is never later than what he says: the day alone leaves him out.
                    if (saidDay[cause][other] != NONE && saidDay[cause][other] < saidDay[cause][judge]
                            && comesAcross(cause, judge, saidTown[cause][other], saidDay[cause][other])) {
                        bits |= 1 << judge;
                    }
                }
            }
            Rows words = bench.words;
            for (int i = 0; i < words.size; i++) {
                if (words.first[i] == cause) {
                    bits |= reachedByWord(cause, words.second[i], words.third[i]);
                }
            }
            return bits;
        }

        int reachedByWord(int cause, int town, int day) {
            int bits = 0;
            for (int judge = 0; judge < land.judges; judge++) {
                if (comesAcross(cause, judge, town, day)) {
                    bits |= 1 << judge;
                }
            }
            return bits;
        }

        /** Whether a judge is, by the day on which he says something of a case, where news from that town is then. */
        private boolean comesAcross(int cause, int judge, int town, int day) {
            int last = saidDay[cause][judge];
            for (int i = 0; i < land.stops[judge] && stopDay[judge][i] <= last; i++) {
                int takes = land.newsDays[town][stopTown[judge][i]];
                if (takes != NONE && day + takes <= stopDay[judge][i]) {
                    return true;
                }
            }
            return false;
        }

        int firstNews(int cause, int town) {
            int first = NONE;
            for (int judge = 0; judge < land.judges; judge++) {
                if (saidDay[cause][judge] != NONE) {
                    first = earlier(first, arrival(saidTown[cause][judge], saidDay[cause][judge], town));
                }
            }
            Rows words = bench.words;
            for (int i = 0; i < words.size; i++) {
                if (words.first[i] == cause) {
                    first = earlier(first, arrival(words.second[i], words.third[i], town));
                }
            }
            return first;
        }

        private int arrival(int from, int day, int to) {
            int takes = land.newsDays[from][to];
            return takes == NONE ? NONE : day + takes;
        }

        private static int earlier(int day, int other) {
            if (day == NONE || other == NONE) {
                return Math.max(day, other);
            }
            return Math.min(day, other);
        }

        void meetAll(int inns) {
            for (int a = 0; a < land.judges; a++) {
                for (int b = 0; b < a; b++) {
                    int day = firstInnDay(a, b, inns);
                    metDay[a][b] = day;
                    metDay[b][a] = day;
                }
            }
            Rows floods = bench.floods;
            for (int i = 0; i < floods.size; i++) {
                meetInFlood(floods.first[i], floods.second[i], floods.third[i]);
            }
        }

        private int firstInnDay(int a, int b, int inns) {
            for (int i = 0; i < land.stops[a]; i++) {
                int town = stopTown[a][i];
                if ((inns >>> town & 1) == 1 && townOn(b, stopDay[a][i]) == town) {
                    return stopDay[a][i];
                }
            }
            return NONE;
        }

        void meetInFlood(int town, int day, int wide) {
            int wet = 0;
            for (int judge = 0; judge < land.judges; judge++) {
                int at = townOn(judge, day);
                if (at != NONE && land.roadDays[at][town] != NONE && land.roadDays[at][town] <= wide) {
                    wet |= 1 << judge;
                }
            }
            for (int a = 0; a < land.judges; a++) {
                for (int b = 0; b < a; b++) {
                    if ((wet >>> a & wet >>> b & 1) == 1) {
                        metDay[a][b] = earlier(metDay[a][b], day);
                        metDay[b][a] = metDay[a][b];
                    }
                }
            }
        }

        void decideAll() {
            for (int cause = 0; cause < land.cases; cause++) {
                trios[cause] = trioWith(cause, 0, deafs);
            }
        }

        int voids(int cause) {
            return reached[cause] & ~deafs;
        }

        /** The three who make it guilty, as bits, if more are reached and these are deaf; 0: there are none. */
        int trioWith(int cause, int moreReached, int deafOnes) {
            int voidOnes = (reached[cause] | moreReached) & ~deafOnes;
            int able = whoSaidGuilty(cause) & ~voidOnes;
            int best = 0;
            int bestDay = NONE;
            for (int a = 0; a < land.judges; a++) {
                for (int b = a + 1; b < land.judges; b++) {
                    for (int c = b + 1; c < land.judges; c++) {
                        int bits = 1 << a | 1 << b | 1 << c;
                        int day = latestDay(cause, a, b, c);
                        if ((bits & ~able) == 0 && (best == 0 || day < bestDay) && areInThreeTowns(cause, a, b, c)
                                && areApart(a, b, day) && areApart(a, c, day) && areApart(b, c, day)) {
                            best = bits;
                            bestDay = day;
                        }
                    }
                }
            }
            return best;
        }

        private int whoSaidGuilty(int cause) {
            int bits = 0;
            for (int judge = 0; judge < land.judges; judge++) {
                if (saidGuilty[cause][judge] == 1) {
                    bits |= 1 << judge;
                }
            }
            return bits;
        }

        private int latestDay(int cause, int a, int b, int c) {
            int[] days = saidDay[cause];
            return Math.max(days[a], Math.max(days[b], days[c]));
        }

        private boolean areInThreeTowns(int cause, int a, int b, int c) {
            int[] at = saidTown[cause];
            return at[a] != at[b] && at[a] != at[c] && at[b] != at[c];
        }

        private boolean areApart(int a, int b, int day) {
            return metDay[a][b] == NONE || metDay[a][b] > day;
        }

        /** It is guilty on the day on which the last of the three speaks: ahead of it there are not three. */
        int trioDay(int cause) {
            int day = NONE;
            for (int judge = 0; judge < land.judges; judge++) {
                if ((trios[cause] >>> judge & 1) == 1) {
                    day = Math.max(day, saidDay[cause][judge]);
                }
            }
            return day;
        }

        int howManyGuilty() {
            int many = 0;
            for (int cause = 0; cause < land.cases; cause++) {
                if (trios[cause] != 0) {
                    many++;
                }
            }
            return many;
        }

        boolean isAllAsSeen(int toldCase, int moreReached) {
            Rows seen = bench.seen;
            for (int i = 0; i < seen.size; i++) {
                int cause = seen.first[i];
                int bits = reached[cause] | (cause == toldCase ? moreReached : 0);
                if (((bits & ~deafs) >>> seen.second[i] & 1) != seen.third[i]) {
                    return false;
                }
            }
            return true;
        }

        void playGame(int cause) {
            for (int one = 0; one < land.judges; one++) {
                wins[one] = 0;
                for (int other = 0; other < land.judges; other++) {
                    if (trioWith(cause, 1 << other, deafs | 1 << one) != 0) {
                        wins[one] |= 1 << other;
                    }
                }
            }
        }

        boolean rests(int one, int other) {
            int gain = wins[one] >>> other & 1;
            for (int judge = 0; judge < land.judges; judge++) {
                if ((wins[judge] >>> other & 1) > gain || (wins[one] >>> judge & 1) < gain) {
                    return false;
                }
            }
            return true;
        }
    }
}
