import java.util.ArrayList;
import java.util.List;

/** Lands and calls by a seed, each answer against the Model's. */
public final class ModelTest {
    private static final String[] VALUES = {"proof", "harsh", "day", "town", "said"};

    private static Checks.Dice dice;

    private record Expr(String text, Model.Rule rule) {
    }

    public static void main(String[] args) {
        int guilty = 0;
        for (int run = 1; run <= 150; run++) {
            dice = new Checks.Dice(run);
            guilty += oneRun(run);
        }
        Checks.due("some lands are such that the dear questions mean something", guilty > 500 ? 1 : 0, 1);
        Checks.finish("ModelTest");
    }

    private static int oneRun(int run) {
        Model model = new Model();
        String text = makeLand(model);
        ApartBench bench = new ApartBench();
        Checks.due("run " + run + ": land of " + text, Checks.tell(bench, text), 0);
        int guilty = 0;
        StringBuilder told = new StringBuilder("run " + run + ": " + text + " ::");
        for (int i = 0; i < 60; i++) {
            if (dice.oneIn(2)) {
                change(told, model, bench);
            } else {
                ask(told, model, bench);
            }
            guilty += model.howMany();
            lookAround(told.toString(), model, bench);
        }
        return guilty;
    }

    private static String blank() {
        return new String[] {" ", " ", "  ", "\n", " \n "}[dice.below(5)];
    }

    private static String number(int n) {
        return (dice.oneIn(12) ? "0" : "") + n + (dice.oneIn(9) ? blank() : "");
    }

    private static String makeLand(Model m) {
        StringBuilder text = new StringBuilder();
        m.towns = 3 + dice.below(7);
        for (int t = 0; t < m.towns; t++) {
            m.inn[t] = dice.oneIn(3);
            text.append(m.inn[t] ? "town inn;" : "town;");
        }
        makeRoads(m, text);
        if (!dice.oneIn(5)) {
            m.gossip = 1 + dice.below(40);
            text.append("gossip ").append(number(m.gossip)).append(";");
        }
        if (dice.oneIn(2)) {
            addLaw(m, text, 120);
        }
        int cases = 1 + dice.below(6);
        for (int c = 0; c < cases; c++) {
            text.append(makeCase(m));
        }
        int judges = dice.oneIn(4) ? dice.below(6) : 5;
        for (int j = 0; j < judges; j++) {
            text.append(makeJudge(m));
        }
        if (m.law == null && dice.oneIn(4)) {
            addLaw(m, text, 600 - text.length() - 8);
        }
        return text.toString();
    }

    private static void addLaw(Model m, StringBuilder text, int room) {
        Expr law = either(0);
        if (law.text.length() < room) {
            m.law = law.rule;
            text.append("law ").append(law.text).append(";");
        }
    }

    private static void makeRoads(Model m, StringBuilder text) {
        int wanted = Math.min(14, m.towns - 1 + dice.below(6));
        for (int tries = 0; tries < 60 && m.roads < wanted; tries++) {
            int a = dice.below(m.towns);
            int b = tries < m.towns - 1 && !dice.oneIn(12) ? tries + 1 : dice.below(m.towns);
            a = tries < m.towns - 1 && a > tries ? dice.below(tries + 1) : a;
            if (a != b && m.road[a][b] == 0) {
                int days = 1 + dice.below(dice.oneIn(3) ? 9 : 3);
                m.road[a][b] = days;
                m.road[b][a] = days;
                m.roads++;
                text.append("road ").append(number(a)).append(" ").append(number(b)).append(" ").append(days)
                        .append(";");
            }
        }
    }

    private static String makeCase(Model m) {
        int[] proofs = new int[9];
        java.util.Arrays.fill(proofs, -1);
        StringBuilder text = new StringBuilder("case");
        int many = 1 + dice.below(Math.min(6, m.towns));
        for (int i = 0; i < many; i++) {
            int town = dice.below(m.towns);
            if (proofs[town] < 0) {
                proofs[town] = dice.oneIn(3) ? dice.below(10) : 5 + dice.below(5);
                text.append(blank()).append(town).append(" ").append(number(proofs[town]));
            }
        }
        m.cases.add(proofs);
        return text.append(";").toString();
    }

    private static String makeJudge(Model m) {
        int kind = dice.oneIn(2) ? 0 : dice.below(3);
        m.deaf.add(kind == 1);
        m.wise.add(kind == 2);
        m.start.add(dice.below(dice.oneIn(5) ? 61 : 8));
        m.harsh.add(dice.below(10));
        int j = m.harsh.size() - 1;
        StringBuilder text = new StringBuilder(new String[] {"judge", "deaf", "wise"}[kind]);
        text.append(blank()).append(m.start.get(j)).append(" ").append(number(m.harsh.get(j)));
        List<Integer> route = new ArrayList<>();
        int town = dice.below(m.towns);
        int many = 1 + dice.below(7);
        for (int i = 0; i < many && town >= 0; i++) {
            route.add(town);
            text.append(blank()).append(town);
            town = neighbour(m, town);
        }
        m.routes.add(route.stream().mapToInt(x -> x).toArray());
        return text.append(";").toString();
    }

    private static int neighbour(Model m, int town) {
        for (int tries = 0; tries < 30; tries++) {
            int other = dice.below(m.towns);
            if (m.road[town][other] > 0) {
                return other;
            }
        }
        return -1;
    }

    private static int one(boolean holds) {
        return holds ? 1 : 0;
    }

    private static Expr either(int depth) {
        Expr left = both(depth);
        for (int i = 0; i < 3 && dice.oneIn(4); i++) {
            Expr a = left;
            Expr b = both(depth);
            left = new Expr(a.text + " or " + b.text, (p, h, d, t, s) -> one(
                    a.rule.gives(p, h, d, t, s) != 0 | b.rule.gives(p, h, d, t, s) != 0));
        }
        return left;
    }

    private static Expr both(int depth) {
        Expr left = not(depth, 0);
        for (int i = 0; i < 3 && dice.oneIn(4); i++) {
            Expr a = left;
            Expr b = not(depth, 0);
            left = new Expr(a.text + "\nand " + b.text, (p, h, d, t, s) -> one(
                    a.rule.gives(p, h, d, t, s) != 0 & b.rule.gives(p, h, d, t, s) != 0));
        }
        return left;
    }

    private static Expr not(int depth, int nots) {
        if (nots < 6 && dice.oneIn(6)) {
            Expr a = not(depth, nots + 1);
            return new Expr("not " + a.text, (p, h, d, t, s) -> one(a.rule.gives(p, h, d, t, s) == 0));
        }
        Expr a = sum(depth);
        if (dice.oneIn(2)) {
            return a;
        }
        Expr b = sum(depth);
        if (dice.oneIn(2)) {
            return new Expr(a.text + "<" + b.text, (p, h, d, t, s) -> one(
                    a.rule.gives(p, h, d, t, s) < b.rule.gives(p, h, d, t, s)));
        }
        return new Expr(a.text + "=" + b.text, (p, h, d, t, s) -> one(
                a.rule.gives(p, h, d, t, s) == b.rule.gives(p, h, d, t, s)));
    }

    private static Expr sum(int depth) {
        Expr left = product(depth);
        for (int i = 0; i < 3 && dice.oneIn(3); i++) {
            Expr a = left;
            Expr b = product(depth);
            left = dice.oneIn(2)
                    ? new Expr(a.text + "+" + b.text, (p, h, d, t, s) -> a.rule.gives(p, h, d, t, s)
                            + b.rule.gives(p, h, d, t, s))
                    : new Expr(a.text + " - " + b.text, (p, h, d, t, s) -> a.rule.gives(p, h, d, t, s)
                            - b.rule.gives(p, h, d, t, s));
        }
        return left;
    }

    private static Expr product(int depth) {
        Expr left = part(depth);
        for (int i = 0; i < 3 && dice.oneIn(3); i++) {
            Expr a = left;
            Expr b = part(depth);
            left = dice.oneIn(2)
                    ? new Expr(a.text + "*" + b.text, (p, h, d, t, s) -> a.rule.gives(p, h, d, t, s)
                            * b.rule.gives(p, h, d, t, s))
                    : new Expr(a.text + "/" + b.text, (p, h, d, t, s) -> b.rule.gives(p, h, d, t, s) == 0 ? 0
                            : a.rule.gives(p, h, d, t, s) / b.rule.gives(p, h, d, t, s));
        }
        return left;
    }

    private static Expr part(int depth) {
        if (depth < 5 && dice.oneIn(5)) {
            Expr a = either(depth + 1);
            return new Expr("(" + a.text + ")", a.rule);
        }
        if (dice.oneIn(3)) {
            int n = dice.oneIn(4) ? dice.below(10000) : dice.below(10);
            return new Expr("" + n, (p, h, d, t, s) -> n);
        }
        int v = dice.oneIn(2) ? 0 : dice.below(5);
        return new Expr(VALUES[v], (p, h, d, t, s) -> new int[] {p, h, d, t, s}[v]);
    }

    private static void change(StringBuilder told, Model m, ApartBench x) {
        int town = dice.below(m.towns);
        int cause = dice.below(m.cases.size());
        int day = dice.oneIn(10) ? dice.below(120) - 10 : dice.below(20);
        int wide = dice.oneIn(8) ? dice.below(30) - 4 : dice.below(6);
        int judge = m.routes.isEmpty() ? -1 : dice.below(m.routes.size());
        boolean flag = dice.oneIn(2);
        switch (dice.below(12)) {
            case 0: case 1: case 2:
                if (judge >= 0) {
                    due(told, "start(" + judge + "," + day + ")", x.start(judge, day), m.start(judge, day));
                }
                break;
            case 3:
                due(told, "inn(" + town + "," + flag + ")", x.inn(town, flag) ? 1 : 0, m.inn(town, flag));
                break;
            case 4:
                due(told, "word(" + cause + "," + town + "," + day + ")", x.word(cause, town, day),
                        m.word(cause, town, day));
                break;
            case 5:
                due(told, "feast(" + town + "," + day + "," + (day + wide) + ")", x.feast(town, day, day + wide),
                        m.feast(town, day, day + wide));
                break;
            case 6:
                due(told, "flood(" + town + "," + day + "," + wide + ")", x.flood(town, day, wide),
                        m.flood(town, day, wide));
                break;
            case 7: case 8:
                due(told, "undo()", x.undo(), m.undo());
                break;
            case 9:
                if (judge >= 0) {
                    due(told, "see(" + cause + "," + judge + "," + flag + ")", x.see(cause, judge, flag),
                            m.see(cause, judge, flag));
                }
                break;
            case 10:
                due(told, "forget()", x.forget(), m.forget());
                break;
            default:
                if (dice.oneIn(2)) {
                    told.append(" image()");
                    x.image();
                    m.image();
                } else {
                    due(told, "restore()", x.restore() ? 1 : 0, m.restore() ? 1 : 0);
                }
                break;
        }
    }

    private static void ask(StringBuilder told, Model m, ApartBench x) {
        int cause = dice.below(m.cases.size());
        int judge = m.routes.isEmpty() ? -1 : dice.below(m.routes.size());
        int what = dice.below(2);
        int three = dice.below(3);
        switch (dice.below(10)) {
            case 0:
                due(told, "burn(" + what + ")", x.burn(what), m.burn(what));
                break;
            case 1:
                if (judge >= 0 && dice.oneIn(6)) {
                    due(told, "when(" + judge + "," + what + ")", x.when(judge, what), m.when(judge, what));
                }
                break;
            case 2:
                if (judge >= 0) {
                    due(told, "round(" + judge + ")", x.round(judge), m.round(judge));
                }
                break;
            case 3:
                if (dice.oneIn(3)) {
                    due(told, "free(" + cause + "," + what + ")", x.free(cause, what), m.free(cause, what));
                }
                break;
            case 4:
                due(told, "mercy(" + cause + ")", x.mercy(cause), m.mercy(cause));
                break;
            case 5:
                if (judge >= 0) {
                    due(told, "deaf(" + judge + ")", x.deaf(judge), m.deaf(judge));
                }
                break;
            case 6:
                due(told, "soonest(" + what + ")", x.soonest(what), m.soonest(what));
                break;
            case 7:
                if (dice.oneIn(3)) {
                    due(told, "sent(" + cause + "," + three + ")", x.sent(cause, three), m.sent(cause, three));
                }
                break;
            case 8:
                due(told, "game(" + cause + "," + what + ")", x.game(cause, what), m.game(cause, what));
                break;
            default:
                if (dice.oneIn(3)) {
                    int seed = dice.below(Integer.MAX_VALUE) - dice.below(Integer.MAX_VALUE);
                    int n = dice.below(12);
                    due(told, "season(" + seed + "," + n + "," + three + ")", x.season(seed, n, three),
                            m.season(seed, n, three));
                }
                break;
        }
    }

    private static void due(StringBuilder told, String call, int got, int want) {
        told.append(" ").append(call);
        Checks.due(told.toString(), got, want);
    }

    private static void lookAround(String told, Model m, ApartBench x) {
        Checks.due(told + " count(9)", x.count(9), m.howMany());
        Checks.due(told + " count(10)", x.count(10), m.past.size());
        int[] counts = {m.words.size(), m.feasts.size(), m.floods.size()};
        for (int i = 0; i < 3; i++) {
            Checks.due(told + " count(" + (6 + i) + ")", x.count(6 + i), counts[i]);
            Checks.due(told + " count(" + (13 + i) + ")", x.count(13 + i), m.status[i]);
        }
        Checks.due(told + " count(11)", x.count(11), m.seen.size());
        int inns = 0;
        for (int t = 0; t < m.towns; t++) {
            inns |= m.inn[t] ? 1 << t : 0;
        }
        Checks.due(told + " count(5)", x.count(5), inns);
        int town = dice.below(m.towns);
        int other = dice.below(m.towns);
        Checks.due(told + " far 0 of " + town + ", " + other, x.far(town, other, 0), m.days(town, other));
        Checks.due(told + " far 1 of " + town + ", " + other, x.far(town, other, 1), m.newsDays(town, other));
        for (int c = 0; c < m.cases.size(); c++) {
            int[] g = m.guilty(c);
            Checks.due(told + " guilty(" + c + ",0)", x.guilty(c, 0), g == null ? -1 : g[0]);
            Checks.due(told + " guilty(" + c + ",1)", x.guilty(c, 1), g == null ? 0 : g[1]);
        }
        int c = dice.below(m.cases.size());
        Checks.due(told + " news(" + c + "," + town + ")", x.news(c, town), m.news(c, town));
        Checks.due(told + " proof(" + c + "," + town + ")", x.proof(c, town), m.cases.get(c)[town]);
        for (int j = 0; j < m.routes.size(); j++) {
            lookAtJudge(told, m, x, c, j);
        }
    }

    private static void lookAtJudge(String told, Model m, ApartBench x, int c, int j) {
        Model.Said s = m.said(c, j);
        Checks.due(told + " said(" + c + "," + j + ",0)", x.said(c, j, 0), s == null ? -1 : s.guilty ? 1 : 0);
        Checks.due(told + " said(" + c + "," + j + ",1)", x.said(c, j, 1), s == null ? -1 : s.day);
        Checks.due(told + " said(" + c + "," + j + ",2)", x.said(c, j, 2), s == null ? -1 : s.town);
        Checks.due(told + " said(" + c + "," + j + ",3)", x.said(c, j, 3), s != null && s.isVoid ? 1 : 0);
        int day = dice.below(30);
        Checks.due(told + " where(" + j + "," + day + ")", x.where(j, day), m.where(j, day));
        Checks.due(told + " judge(" + j + ",4)", x.judge(j, 4), m.lastDay(j));
        int i = dice.below(m.routes.get(j).length);
        Checks.due(told + " stop(" + j + "," + i + ",0)", x.stop(j, i, 0), m.routes.get(j)[i]);
        Checks.due(told + " where at stop " + i, m.where(j, x.stop(j, i, 1)), m.routes.get(j)[i]);
        for (int k = 0; k < j; k++) {
            Checks.due(told + " met(" + j + "," + k + ")", x.met(j, k), m.met(j, k));
            Checks.due(told + " met(" + k + "," + j + ")", x.met(k, j), m.met(j, k));
        }
    }
}
