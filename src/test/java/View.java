import java.util.ArrayList;
import java.util.List;
import java.util.function.LongSupplier;

/** All that can be asked of an object, as rows of text: two that are alike answer alike. */
final class View {
    private final ApartBench bench;
    private final List<String> rows = new ArrayList<>();

    private View(ApartBench bench) {
        this.bench = bench;
    }

    /** What does not hang on the tape, on STATUS and on the latest text. */
    static List<String> of(ApartBench bench) {
        View view = new View(bench);
        for (int what = 0; what < 12; what++) {
            int w = what;
            view.ask("count(" + w + ")", () -> bench.count(w));
        }
        view.askLand();
        view.askJudges();
        view.askCases();
        view.askWhatWouldBe();
        return view.rows;
    }

    private void ask(String what, LongSupplier call) {
        rows.add(what + " = " + Checks.name(Checks.answer(call)));
    }

    private void askLand() {
        int towns = bench.count(0);
        for (int town = 0; town < towns; town++) {
            for (int other = 0; other < town; other++) {
                int a = town;
                int b = other;
                ask("far(" + a + ", " + b + ", 0)", () -> bench.far(a, b, 0));
                ask("far(" + b + ", " + a + ", 1)", () -> bench.far(b, a, 1));
            }
        }
    }

    private void askJudges() {
        int judges = bench.count(3);
        for (int judge = 0; judge < judges; judge++) {
            int j = judge;
            for (int what = 0; what < 5; what++) {
                int w = what;
                ask("judge(" + j + ", " + w + ")", () -> bench.judge(j, w));
            }
            int stops = bench.judge(j, 3);
            for (int stop = 0; stop < stops; stop++) {
                int i = stop;
                ask("stop(" + j + ", " + i + ", 0)", () -> bench.stop(j, i, 0));
                ask("stop(" + j + ", " + i + ", 1)", () -> bench.stop(j, i, 1));
            }
            for (int other = 0; other < j; other++) {
                int o = other;
                ask("met(" + j + ", " + o + ")", () -> bench.met(j, o));
            }
            ask("deaf(" + j + ")", () -> bench.deaf(j));
            ask("round(" + j + ")", () -> bench.round(j));
            ask("when(" + j + ", 0)", () -> bench.when(j, 0));
            ask("when(" + j + ", 1)", () -> bench.when(j, 1));
        }
    }

    private void askCases() {
        int cases = bench.count(4);
        for (int cause = 0; cause < cases; cause++) {
            int c = cause;
            for (int judge = 0; judge < bench.count(3); judge++) {
                int j = judge;
                for (int what = 0; what < 4; what++) {
                    int w = what;
                    ask("said(" + c + ", " + j + ", " + w + ")", () -> bench.said(c, j, w));
                }
            }
            for (int town = 0; town < bench.count(0); town++) {
                int t = town;
                ask("proof(" + c + ", " + t + ")", () -> bench.proof(c, t));
                ask("news(" + c + ", " + t + ")", () -> bench.news(c, t));
            }
            ask("mercy(" + c + ")", () -> bench.mercy(c));
            for (int what = 0; what < 2; what++) {
                int w = what;
                ask("guilty(" + c + ", " + w + ")", () -> bench.guilty(c, w));
                ask("free(" + c + ", " + w + ")", () -> bench.free(c, w));
                ask("sent(" + c + ", " + w + ")", () -> bench.sent(c, w));
                ask("game(" + c + ", " + w + ")", () -> bench.game(c, w));
            }
            ask("sent(" + c + ", 2)", () -> bench.sent(c, 2));
        }
    }

    private void askWhatWouldBe() {
        for (int what = 0; what < 2; what++) {
            int w = what;
            ask("burn(" + w + ")", () -> bench.burn(w));
            ask("soonest(" + w + ")", () -> bench.soonest(w));
            ask("season(99, 40, " + w + ")", () -> bench.season(99, 40, w));
        }
        ask("season(99, 40, 2)", () -> bench.season(99, 40, 2));
    }
}
