import java.util.ArrayDeque;
import java.util.ArrayList;
import java.util.Deque;
import java.util.List;

/** The document once more, in the plainest way: every day is walked, every question is a copy of the world. */
final class Model {
    static final int END_OF_DAYS = 140;

    interface Rule {
        int gives(int proof, int harsh, int day, int town, int said);
    }

    static final class Said {
        int day;
        int town;
        boolean guilty;
        boolean isVoid;
    }

    int towns;
    boolean[] inn = new boolean[9];
    int[][] road = new int[9][9];
    int roads;
    int gossip = 10;
    List<int[]> routes = new ArrayList<>();
    List<Boolean> deaf = new ArrayList<>();
    List<Boolean> wise = new ArrayList<>();
    List<Integer> harsh = new ArrayList<>();
    List<Integer> start = new ArrayList<>();
    List<int[]> cases = new ArrayList<>();
    Rule law;
    List<int[]> words = new ArrayList<>();
    List<int[]> feasts = new ArrayList<>();
    List<int[]> floods = new ArrayList<>();
    List<int[]> seen = new ArrayList<>();
    List<int[]> mules = new ArrayList<>();
    int[] status = new int[3];
    Deque<Model> past = new ArrayDeque<>();
    Model image;

    private Said[][] sayings;
    private int[][] ways;

    Model copy() {
        Model m = new Model();
        m.takeFrom(this);
        return m;
    }

    private void takeFrom(Model o) {
        towns = o.towns;
        inn = o.inn.clone();
        road = o.road;
        roads = o.roads;
        gossip = o.gossip;
        routes = new ArrayList<>(o.routes);
        deaf = new ArrayList<>(o.deaf);
        wise = o.wise;
        harsh = o.harsh;
        start = new ArrayList<>(o.start);
        cases = o.cases;
        law = o.law;
        words = new ArrayList<>(o.words);
        feasts = new ArrayList<>(o.feasts);
        floods = new ArrayList<>(o.floods);
        seen = new ArrayList<>(o.seen);
        mules = new ArrayList<>(o.mules);
        status = o.status.clone();
        past = new ArrayDeque<>(o.past);
        sayings = null;
        ways = o.ways;
    }

    int days(int a, int b) {
        if (ways == null) {
            int[][] fresh = new int[towns][towns];
            for (int x = 0; x < towns; x++) {
                for (int y = 0; y < towns; y++) {
                    fresh[x][y] = shortest(x, y);
                }
            }
            ways = fresh;
        }
        return ways[a][b];
    }

    private int shortest(int a, int b) {
        int[] far = new int[towns];
        java.util.Arrays.fill(far, 1000000);
        far[a] = 0;
        for (int round = 0; round < towns; round++) {
            for (int x = 0; x < towns; x++) {
                for (int y = 0; y < towns; y++) {
                    if (road[x][y] > 0) {
                        far[y] = Math.min(far[y], far[x] + road[x][y]);
                    }
                }
            }
        }
        return far[b] >= 1000000 ? -1 : far[b];
    }

    int newsDays(int a, int b) {
        int d = days(a, b);
        if (d < 0) {
            return -1;
        }
        int tenths = d * gossip;
        return tenths % 10 == 0 ? tenths / 10 : tenths / 10 + 1;
    }

    int where(int j, int day) {
        int[] route = routes.get(j);
        int at = start.get(j);
        for (int i = 0; i < route.length; i++) {
            if (i > 0) {
                at += road[route[i - 1]][route[i]];
            }
            if (at == day) {
                return route[i];
            }
        }
        return -1;
    }

    int lastDay(int j) {
        int last = -1;
        for (int d = 0; d < END_OF_DAYS; d++) {
            last = where(j, d) >= 0 ? d : last;
        }
        return last;
    }

    private boolean feastAt(int town, int day) {
        for (int[] f : feasts) {
            if (f[0] == town && day >= f[1] && day <= f[2]) {
                return true;
            }
        }
        return false;
    }

    Said said(int c, int j) {
        if (sayings == null) {
            Said[][] fresh = new Said[cases.size()][routes.size()];
            for (int day = 0; day < END_OF_DAYS; day++) {
                for (int k = 0; k < routes.size(); k++) {
                    int town = where(k, day);
                    if (town >= 0 && !feastAt(town, day)) {
                        for (int x = 0; x < cases.size(); x++) {
                            if (cases.get(x)[town] >= 0 && fresh[x][k] == null) {
                                fresh[x][k] = say(fresh, x, k, town, day);
                            }
                        }
                    }
                }
            }
            sayings = fresh;
            for (int x = 0; x < cases.size(); x++) {
                for (int k = 0; k < routes.size(); k++) {
                    if (fresh[x][k] != null) {
                        fresh[x][k].isVoid = isVoid(x, k);
                    }
                }
            }
        }
        return sayings[c][j];
    }

    private Said say(Said[][] fresh, int c, int j, int town, int day) {
        int before = 0;
        for (Said s : fresh[c]) {
            before += s != null && s.day < day ? 1 : 0;
        }
        int proof = cases.get(c)[town];
        boolean holds = law == null ? proof > 4 : law.gives(proof, harsh.get(j), day, town, before) > 0;
        Said s = new Said();
        s.day = day;
        s.town = town;
        s.guilty = wise.get(j) ? !holds : holds;
        return s;
    }

    private boolean isVoid(int c, int j) {
        if (deaf.get(j)) {
            return false;
        }
        for (int[] m : mules) {
            if (m[0] == c && m[1] == j) {
                return true;
            }
        }
        int when = sayings[c][j].day;
        for (int day = 0; day <= when; day++) {
            int town = where(j, day);
            if (town >= 0) {
                for (int k = 0; k < routes.size(); k++) {
                    Said s = sayings[c][k];
                    if (k != j && s != null && s.day < when && reaches(s.town, s.day, town, day)) {
                        return true;
                    }
                }
                for (int[] w : words) {
                    if (w[0] == c && reaches(w[1], w[2], town, day)) {
                        return true;
                    }
                }
            }
        }
        return false;
    }

    private boolean reaches(int from, int sent, int to, int day) {
        int takes = newsDays(from, to);
        return takes >= 0 && sent + takes <= day;
    }

    int met(int a, int b) {
        for (int day = 0; day < END_OF_DAYS; day++) {
            int x = where(a, day);
            int y = where(b, day);
            if (x >= 0 && y >= 0) {
                if (x == y && inn[x]) {
                    return day;
                }
                for (int[] f : floods) {
                    int dx = days(x, f[0]);
                    int dy = days(y, f[0]);
                    if (f[1] == day && dx >= 0 && dy >= 0 && dx <= f[2] && dy <= f[2]) {
                        return day;
                    }
                }
            }
        }
        return -1;
    }

    /** The day and the bits; null if never. */
    int[] guilty(int c) {
        int n = routes.size();
        int[][] met = new int[n][n];
        for (int a = 0; a < n; a++) {
            for (int b = 0; b < n; b++) {
                met[a][b] = a == b ? -1 : met(a, b);
            }
        }
        for (int day = 0; day < END_OF_DAYS; day++) {
            for (int x = 0; x < n; x++) {
                for (int y = x + 1; y < n; y++) {
                    for (int z = y + 1; z < n; z++) {
                        if (counts(c, x, day) && counts(c, y, day) && counts(c, z, day)
                                && said(c, x).town != said(c, y).town && said(c, x).town != said(c, z).town
                                && said(c, y).town != said(c, z).town && apart(met[x][y], day)
                                && apart(met[x][z], day) && apart(met[y][z], day)) {
                            return new int[] {day, 1 << x | 1 << y | 1 << z};
                        }
                    }
                }
            }
        }
        return null;
    }

    private boolean counts(int c, int j, int day) {
        Said s = said(c, j);
        return s != null && s.day <= day && s.guilty && !s.isVoid;
    }

    private static boolean apart(int met, int day) {
        return met < 0 || met > day;
    }

    int howMany() {
        int many = 0;
        for (int c = 0; c < cases.size(); c++) {
            many += guilty(c) != null ? 1 : 0;
        }
        return many;
    }

    int news(int c, int town) {
        for (int day = 0; day < 500; day++) {
            for (int j = 0; j < routes.size(); j++) {
                if (said(c, j) != null && reaches(said(c, j).town, said(c, j).day, town, day)) {
                    return day;
                }
            }
            for (int[] w : words) {
                if (w[0] == c && reaches(w[1], w[2], town, day)) {
                    return day;
                }
            }
        }
        return -1;
    }

    private void remember() {
        Model before = copy();
        before.past = new ArrayDeque<>();
        past.addLast(before);
        if (past.size() > 40) {
            past.removeFirst();
        }
        sayings = null;
    }

    private int refuse() {
        status[1]++;
        return -1;
    }

    int start(int j, int day) {
        if (day < 0 || day > 60) {
            return refuse();
        }
        remember();
        return start.set(j, day);
    }

    int inn(int town, boolean built) {
        if (inn[town] == built) {
            refuse();
            return 0;
        }
        remember();
        inn[town] = built;
        return 1;
    }

    int word(int c, int town, int day) {
        if (words.size() == 4 || day < 0 || day > 99) {
            return refuse();
        }
        remember();
        words.add(new int[] {c, town, day});
        return words.size();
    }

    int feast(int town, int from, int to) {
        if (feasts.size() == 4 || from < 0 || to > 99 || to < from) {
            return refuse();
        }
        remember();
        feasts.add(new int[] {town, from, to});
        return feasts.size();
    }

    int flood(int town, int day, int wide) {
        if (floods.size() == 4 || day < 0 || day > 99 || wide < 0 || wide > 20) {
            return refuse();
        }
        remember();
        floods.add(new int[] {town, day, wide});
        return floods.size();
    }

    int undo() {
        if (past.isEmpty()) {
            return -1;
        }
        Model before = past.removeLast();
        start = new ArrayList<>(before.start);
        inn = before.inn.clone();
        words = new ArrayList<>(before.words);
        feasts = new ArrayList<>(before.feasts);
        floods = new ArrayList<>(before.floods);
        sayings = null;
        return past.size();
    }

    int burn(int what) {
        int best = -1;
        int most = -1;
        for (int t = towns - 1; t >= 0; t--) {
            if (inn[t]) {
                Model m = copy();
                m.inn[t] = false;
                if (m.howMany() >= most) {
                    most = m.howMany();
                    best = t;
                }
            }
        }
        return what == 0 ? best : most;
    }

    int when(int j, int what) {
        int best = -1;
        int most = -1;
        for (int d = 60; d >= 0; d--) {
            Model m = copy();
            m.start.set(j, d);
            int many = m.howMany();
            if (many >= most) {
                most = many;
                best = d;
            }
        }
        return what == 0 ? best : most;
    }

    int round(int j) {
        Model m = copy();
        int[] route = routes.get(j);
        int[] back = new int[route.length];
        for (int i = 0; i < route.length; i++) {
            back[route.length - 1 - i] = route[i];
        }
        m.routes.set(j, back);
        return m.howMany() - howMany();
    }

    int free(int c, int what) {
        if (guilty(c) == null) {
            return -2;
        }
        for (int d = 0; d <= 60; d++) {
            for (int t = 0; t < towns; t++) {
                Model m = copy();
                m.words.add(new int[] {c, t, d});
                if (m.guilty(c) == null) {
                    return what == 0 ? d : t;
                }
            }
        }
        return -1;
    }

    int mercy(int c) {
        for (int many = 0; many <= 5; many++) {
            for (int bits = 0; bits < 1 << routes.size(); bits++) {
                if (Integer.bitCount(bits) == many && isMercy(c, bits)) {
                    return bits;
                }
            }
        }
        return -1;
    }

    private boolean isMercy(int c, int bits) {
        Model m = copy();
        for (int j = 0; j < routes.size(); j++) {
            if ((bits >> j & 1) == 1) {
                if (deaf.get(j)) {
                    return false;
                }
                m.mules.add(new int[] {c, j});
            }
        }
        return m.guilty(c) == null;
    }

    int deaf(int j) {
        Model m = copy();
        m.deaf.set(j, !deaf.get(j));
        return m.howMany();
    }

    int soonest(int what) {
        int first = -1;
        int last = -1;
        for (int c = 0; c < cases.size(); c++) {
            int[] g = guilty(c);
            if (g != null) {
                first = first < 0 ? g[0] : Math.min(first, g[0]);
                last = Math.max(last, g[0]);
            }
        }
        return what == 0 ? first : last;
    }

    int see(int c, int j, boolean isVoid) {
        if (seen.size() == 8) {
            status[2]++;
            return -1;
        }
        seen.add(new int[] {c, j, isVoid ? 1 : 0});
        return seen.size();
    }

    int forget() {
        if (seen.isEmpty()) {
            return -1;
        }
        seen.remove(seen.size() - 1);
        return seen.size();
    }

    private boolean allAsSeen() {
        for (int[] s : seen) {
            Said x = said(s[0], s[1]);
            if ((x != null && x.isVoid) != (s[2] == 1)) {
                return false;
            }
        }
        return true;
    }

    int sent(int c, int what) {
        if (what == 2) {
            return allAsSeen() ? 1 : 0;
        }
        int many = 0;
        int first = -1;
        for (int d = 60; d >= 0; d--) {
            for (int t = towns - 1; t >= 0; t--) {
                Model m = copy();
                m.words.add(new int[] {c, t, d});
                if (m.allAsSeen()) {
                    many++;
                    first = d * 100 + t;
                }
            }
        }
        return what == 0 ? many : first;
    }

    private boolean heard(int c, int one, int other) {
        Model m = copy();
        m.deaf.set(one, true);
        m.mules.add(new int[] {c, other});
        return m.guilty(c) != null;
    }

    int game(int c, int what) {
        int n = routes.size();
        boolean[][] gain = new boolean[n][n];
        for (int a = 0; a < n; a++) {
            for (int b = 0; b < n; b++) {
                gain[a][b] = heard(c, a, b);
            }
        }
        int many = 0;
        int first = -1;
        for (int a = n - 1; a >= 0; a--) {
            for (int b = n - 1; b >= 0; b--) {
                boolean rests = true;
                for (int k = 0; k < n; k++) {
                    rests &= gain[a][b] || !gain[k][b];
                    rests &= !gain[a][b] || gain[a][k];
                }
                if (rests) {
                    many++;
                    first = 10 * a + b;
                }
            }
        }
        return what == 0 ? many : first;
    }

    int season(int seed, int n, int what) {
        int[] s = {seed};
        int all = 0;
        int fewest = Integer.MAX_VALUE;
        int full = 0;
        for (int y = 0; y < n; y++) {
            Model m = copy();
            if (towns > 0) {
                for (int i = 0; i < 2; i++) {
                    m.floods.add(new int[] {draw(s, towns), draw(s, 30), draw(s, 6)});
                }
            }
            int many = m.howMany();
            all += many;
            fewest = Math.min(fewest, many);
            full += many == cases.size() ? 1 : 0;
        }
        return what == 0 ? all : what == 1 ? (n == 0 ? 0 : fewest) : full;
    }

    private static int draw(int[] s, int n) {
        s[0] = (int) (s[0] * 1103515245L + 12345L);
        return (int) (((s[0] & 0xffffffffL) / 65536 % 32768) % n);
    }

    void image() {
        image = copy();
    }

    boolean restore() {
        if (image == null) {
            return false;
        }
        Model kept = image;
        takeFrom(kept);
        image = kept;
        return true;
    }
}
