import static java.lang.Integer.MAX_VALUE;
import static java.lang.Integer.MIN_VALUE;

import java.util.List;
import java.util.function.Consumer;
import java.util.function.Supplier;

/** Promises 1 to 34: each call at its edges, empty and full; and what a refused call leaves as it was. */
public final class CallEdgeTest {
    private static final String LAND = "town inn;town;town;road 0 1 2;road 1 2 1;judge 1 5 0 1;wise 3 5 2;deaf 2 5 1 2;"
            + "case 0 9 1 8 2 3;case 2 7;";
    private static final String MOST = "town;".repeat(9) + "road 0 1 1;judge 0 0 0 1 0 1 0 1 0;" + "judge 0 0 8;".repeat(4)
            + "case 0 5;".repeat(6);
    private static final int NO_STATUS = -1;
    private static final int BLANKS = 0x20202020;

    public static void main(String[] args) {
        argumentsOfEveryCall();
        p1NewObject();
        p2Feed();
        p3Land();
        p3LandIsAllAnew();
        p3WorkedOutAnew();
        p3FaultLeavesAll();
        p4Fault();
        p5Count();
        p6Far();
        p7Judge();
        p8Stop();
        p9Where();
        p10To14Nones();
        p12Met();
        p15Start();
        p16Inn();
        p17Word();
        p18Feast();
        p19Flood();
        p20Undo();
        p21To27AskOnly();
        p28See();
        p29Forget();
        p32Season();
        p33And34Image();
        noSuchElementIsAhead();
        thrownCallsLeaveAll();
        refusedCallsLeaveAll();
        the512thCall();
        Checks.finish("CallEdgeTest");
    }

    private static void due(String what, long got, long want) {
        Checks.due(what, got, want);
    }

    private static int one(boolean b) {
        return b ? 1 : 0;
    }

    // "no such TOWN (as everywhere)", "no such JUDGE (as everywhere)", "no such CASE (as everywhere)", "another what"

    private interface Call {
        long ask(ApartBench x, int[] a);
    }

    /** T a town, J a judge, C a case, a digit: a what up to it, - a number that may be 0. */
    private record Asked(String name, String kinds, Call call) {
    }

    private static final List<Asked> CALLS = List.of(
            new Asked("far", "TT1", (x, a) -> x.far(a[0], a[1], a[2])),
            new Asked("judge", "J4", (x, a) -> x.judge(a[0], a[1])),
            new Asked("stop", "J-1", (x, a) -> x.stop(a[0], a[1], a[2])),
            new Asked("where", "J-", (x, a) -> x.where(a[0], a[1])),
            new Asked("proof", "CT", (x, a) -> x.proof(a[0], a[1])),
            new Asked("said", "CJ3", (x, a) -> x.said(a[0], a[1], a[2])),
            new Asked("guilty", "C1", (x, a) -> x.guilty(a[0], a[1])),
            new Asked("news", "CT", (x, a) -> x.news(a[0], a[1])),
            new Asked("start", "J-", (x, a) -> x.start(a[0], a[1])),
            new Asked("inn true", "T", (x, a) -> one(x.inn(a[0], true))),
            new Asked("inn false", "T", (x, a) -> one(x.inn(a[0], false))),
            new Asked("word", "CT-", (x, a) -> x.word(a[0], a[1], a[2])),
            new Asked("feast", "T--", (x, a) -> x.feast(a[0], a[1], a[2])),
            new Asked("flood", "T--", (x, a) -> x.flood(a[0], a[1], a[2])),
            new Asked("burn", "1", (x, a) -> x.burn(a[0])),
            new Asked("when", "J1", (x, a) -> x.when(a[0], a[1])),
            new Asked("round", "J", (x, a) -> x.round(a[0])),
            new Asked("free", "C1", (x, a) -> x.free(a[0], a[1])),
            new Asked("mercy", "C", (x, a) -> x.mercy(a[0])),
            new Asked("deaf", "J", (x, a) -> x.deaf(a[0])),
            new Asked("soonest", "1", (x, a) -> x.soonest(a[0])),
            new Asked("see", "CJ", (x, a) -> x.see(a[0], a[1], true)),
            new Asked("sent", "C2", (x, a) -> x.sent(a[0], a[1])),
            new Asked("game", "C1", (x, a) -> x.game(a[0], a[1])),
            new Asked("season", "--2", (x, a) -> x.season(a[0], a[1], a[2])));

    private static void argumentsOfEveryCall() {
        String[] lands = {"", "town;", "town;judge 0 0 0;", "town;case 0 5;", "town;judge 0 0 0;case 0 5;", MOST};
        for (String land : lands) {
            for (Asked asked : CALLS) {
                ApartBench x = Checks.told(land);
                for (int i = 0; i < asked.kinds().length(); i++) {
                    if (asked.kinds().charAt(i) != '-') {
                        argument(x, land, asked, i);
                    }
                }
            }
        }
    }

    private static int howMany(ApartBench x, char kind) {
        switch (kind) {
            case 'T': return x.count(0);
            case 'J': return x.count(3);
            case 'C': return x.count(4);
            case '-': return 1;
            default: return kind - '0' + 1;
        }
    }

    private static void argument(ApartBench x, String land, Asked asked, int i) {
        int many = howMany(x, asked.kinds().charAt(i));
        boolean othersAre = true;
        for (int k = 0; k < asked.kinds().length(); k++) {
            othersAre &= howMany(x, asked.kinds().charAt(k)) > 0;
        }
        for (int value : new int[] {-1, 0, many - 1, many, MIN_VALUE, MAX_VALUE, many + 256, 256 - many, 1 << 16, -many - 1}) {
            boolean is = othersAre && value >= 0 && value < many;
            int[] arguments = new int[asked.kinds().length()];
            arguments[i] = value;
            long answer = Checks.answer(() -> asked.call().ask(x, arguments));
            String what = asked.name() + java.util.Arrays.toString(arguments) + " in '" + land + "'";
            due(what + " throws NoSuchElementException (1)", one(answer == Checks.NO_SUCH_ELEMENT), one(!is));
            due(what + " throws another one (1)", one(answer == Checks.ILLEGAL_ARGUMENT || answer == Checks.OTHER_EXCEPTION), 0);
        }
    }

    // Promise 1: "No TOWNS, nobody."
    private static void p1NewObject() {
        ApartBench x = new ApartBench();
        for (int what = 0; what < 16; what++) {
            due("P1 count(" + what + ")", x.count(what), what == 2 ? 10 : 0);
        }
        due("P1 fault()", x.fault(), -1);
        due("P1 undo()", x.undo(), -1);
        due("P1 forget()", x.forget(), -1);
        due("P1 restore()", one(x.restore()), 0);
        due("P1 burn", x.burn(0) * 10 + x.burn(1), -11);
        due("P1 soonest", x.soonest(0) * 10 + x.soonest(1), -11);
        due("P1 nothing is refused", x.count(13) + x.count(14) + x.count(15), 0);
        due("P1 two objects know nothing of one another", Checks.told("town;").count(0) * 10 + x.count(0), 10);
        x.image();
        due("P1 an image of nothing", one(x.restore()), 1);
    }

    // Promise 2: "Twenty bytes come behind the tape, of each number the highest first .. NONE .. more than 600."
    private static void p2Feed() {
        ApartBench x = new ApartBench();
        due("P2 town;town inn;town;", x.feed(0x746f776e, 0x3b746f77, 0x6e20696e, 0x6e3b746f, 0x776e3b20), 20);
        due("P2 its 19 bytes", x.land(19), 0);
        due("P2 in their order", x.count(0) * 10 + x.count(5), 32);
        for (int i = 1; i <= 29; i++) {
            due("P2 feed", x.feed(BLANKS, BLANKS, BLANKS, BLANKS, BLANKS), 20 * i);
        }
        due("P2 580 and 20 are 600", x.feed(BLANKS, BLANKS, BLANKS, 0x20202074, 0x6f776e3b), 600);
        for (int i = 0; i < 3; i++) {
            due("P2 full", x.feed(0x746f776e, 0x3b746f77, 0x6e3b746f, 0x776e3b74, 0x6f776e3b), -1);
            due("P2 none come", x.count(12), 600);
        }
        due("P2 all 600", x.land(600), 0);
        due("P2 the last one's town alone", x.count(0), 1);
        due("P2 a full tape is no STATUS", x.count(13) + x.count(14) + x.count(15), 0);
        due("P2 empty again", x.count(12), 0);
        due("P2 from the start", x.feed(-1, MIN_VALUE, MAX_VALUE, 0, 1), 20);
        due("P2 the highest bit is one of the byte", x.land(20) * 10 + x.fault(), 10);
    }

    // Promise 3: "IllegalArgumentException: the tape has not so many, n below 0 (nothing changes)."
    private static void p3Land() {
        ApartBench x = new ApartBench();
        Checks.illegal("P3 an empty tape has not one", () -> x.land(1));
        Checks.illegal("P3 below 0", () -> x.land(-1));
        due("P3 none of an empty tape", x.land(0), 0);
        x.feed(0x746f776e, 0x3b202020, BLANKS, BLANKS, BLANKS);
        for (int n : new int[] {21, 600, 601, -1, -20, MIN_VALUE, MAX_VALUE}) {
            Checks.illegal("P3 land(" + n + ") of 20", () -> x.land(n));
            due("P3 the tape stays", x.count(12), 20);
        }
        due("P3 no STATUS", x.count(13), 0);
        due("P3 all 20", x.land(20) * 10 + x.count(0), 1);
        Checks.illegal("P3 the tape is empty then", () -> x.land(1));
        due("P3 the land stays", x.count(0), 1);
        x.feed(0x746f776e, 0x3b202020, BLANKS, BLANKS, BLANKS);
        due("P3 none of 20", x.land(0), 0);
        due("P3 is a land without towns", x.count(0), 0);
        due("P3 and the tape is empty", x.count(12), 0);
        x.feed(0x746f776e, 0x3b746f77, 0x6e3b746f, 0x776e3b78, 0x78787878);
        due("P3 the first 15 alone", x.land(15) * 10 + x.count(0), 3);
        due("P3 what is behind them is gone too", x.count(12), 0);
    }

    // "all anew .. ACTS, WORDS, FESTIVALS, FLOODS, what is SEEN, the image are gone."
    private static void p3LandIsAllAnew() {
        ApartBench x = full();
        x.start(0, 61);
        due("P3 all is full", x.count(6) * 10000 + x.count(7) * 1000 + x.count(8) * 100 + x.count(10), 44440);
        due("P3 the land of old again", x.land(0) + Checks.tell(x, LAND), 0);
        int[] want = {3, 2, 10, 3, 2, 1, 0, 0, 0, -9, 0, 0, 0, 0, 1, 0};
        for (int what = 0; what < 16; what++) {
            if (want[what] != -9) {
                due("P3 count(" + what + ")", x.count(what), want[what]);
            }
        }
        due("P3 no image", one(x.restore()), 0);
        due("P3 no acts", x.undo(), -1);
        due("P3 nothing seen", x.forget(), -1);
        due("P3 days as told", x.judge(0, 1) * 100 + x.judge(1, 1) * 10 + x.judge(2, 1), 132);
        List<String> fresh = View.of(Checks.told(LAND));
        same("P3 as a new one", View.of(x), fresh);
    }

    /** What was asked ahead of a text, an undo or a restore is no answer behind it. */
    private static void p3WorkedOutAnew() {
        String three = "town;town;town;deaf 5 0 0;deaf 5 0 1;deaf 5 0 2;case 0 9 1 9 2 9;";
        ApartBench x = Checks.told(three);
        due("P3 guilty", x.count(9) * 10 + x.guilty(0, 0), 15);
        due("P3 another text", Checks.tell(x, three.replace("deaf 5 0 2", "deaf 8 0 2")), 0);
        due("P3 guilty later", x.guilty(0, 0), 8);
        due("P3 another text", Checks.tell(x, three.replace("deaf", "judge") + "road 0 1 1;"), 0);
        x.start(0, 0);
        due("P3 those who were deaf hear now", x.said(0, 1, 3) * 10 + x.count(9), 10);
        due("P20 undone", x.undo(), 0);
        due("P20 not void any more", x.said(0, 1, 3) * 10 + x.count(9), 1);
        x.image();
        x.feast(2, 5, 5);
        due("P18 not guilty", x.count(9), 0);
        due("P34 restored", one(x.restore()), 1);
        due("P34 guilty again", x.count(9) * 10 + x.guilty(0, 0), 15);
        due("P3 no cases", Checks.tell(x, "town;") + x.count(9), 0);
        due("P3 none is", x.soonest(0), -1);
    }

    // "0, or the FAULT (all stays, but STATUS)"
    private static void p3FaultLeavesAll() {
        String[] texts = {"x", "town inn;town;town;town;gossip 40;road 0 3 9;judge 60 9 0 3;case 3 9;law 0;law 1;",
            "road 0 1 1;", "town;".repeat(10), LAND + "case 0 5 0 5;", "town;judge 0 0 0 0;", "town"};
        int[] faults = {1, 5, 3, 2, 4, 6, 1};
        for (int i = 0; i < texts.length; i++) {
            String text = texts[i];
            int fault = faults[i];
            leaves("P3 " + text, CallEdgeTest::part, x -> due("P3 " + text, Checks.tell(x, text), fault), 0);
        }
    }

    // Promise 4: "The place of the latest land()'s FAULT; NONE without."
    private static void p4Fault() {
        ApartBench x = new ApartBench();
        due("P4 no land", x.fault(), -1);
        Checks.tell(x, "x");
        due("P4 the first byte", x.fault(), 0);
        Checks.illegal("P4 one that throws", () -> x.land(-1));
        due("P4 is none", x.fault(), 0);
        Checks.tell(x, " ".repeat(596) + "town");
        due("P4 behind the last byte of 600", x.fault(), 600);
        x.image();
        Checks.tell(x, "town;");
        due("P4 without", x.fault(), -1);
        x.image();
        Checks.tell(x, "town;y");
        due("P4 the latest", x.fault(), 5);
        due("P4 an image", one(x.restore()), 1);
        due("P4 does not keep it", x.fault(), 5);
        x.land(0);
        due("P4 nothing is a land", x.fault(), -1);
    }

    // Promise 5: "NoSuchElementException: another what."
    private static void p5Count() {
        ApartBench x = new ApartBench();
        for (int what : new int[] {-1, 16, 17, MIN_VALUE, MAX_VALUE, 256, 1 << 16}) {
            Checks.noSuch("P5 count(" + what + ")", () -> x.count(what));
        }
        ApartBench full = full();
        fillTape(full);
        int[] want = {3, 2, 10, 3, 2, 1, 4, 4, 4, -9, 40, 8, 600, 0, 0, 0};
        for (int what = 0; what < 16; what++) {
            if (want[what] != -9) {
                due("P5 full: count(" + what + ")", full.count(what), want[what]);
            }
        }
    }

    // Promise 6: "NONE: there is none."
    private static void p6Far() {
        ApartBench x = Checks.told(MOST);
        due("P6 the last town to itself", x.far(8, 8, 0) + x.far(8, 8, 1), 0);
        due("P6 no way", x.far(0, 8, 0) * 10 + x.far(0, 8, 1), -11);
        due("P6 no way back", x.far(8, 0, 0) * 10 + x.far(8, 0, 1), -11);
        due("P6 a road", x.far(0, 1, 0) * 10 + x.far(1, 0, 1), 11);
    }

    // Promise 7: "0 KIND, 1 his first DAY, 2 HARSH, 3 how many TOWNS his ROUTE has, 4 his last DAY"
    private static void p7Judge() {
        ApartBench x = Checks.told("town;town;road 0 1 9;judge 0 0 0;deaf 60 9 1 0 1 0 1 0 1;wise 60 5 1;");
        int[][] want = {{0, 0, 0, 1, 0}, {1, 60, 9, 7, 114}, {2, 60, 5, 1, 60}};
        for (int judge = 0; judge < 3; judge++) {
            for (int what = 0; what < 5; what++) {
                due("P7 judge(" + judge + ", " + what + ")", x.judge(judge, what), want[judge][what]);
            }
        }
        x.start(1, 0);
        due("P7 his first day, his last one", x.judge(1, 1) * 100 + x.judge(1, 4), 54);
    }

    // Promise 8: "Of the i-th TOWN of a ROUTE (0 on) .. NoSuchElementException: also there is none."
    private static void p8Stop() {
        ApartBench x = Checks.told(MOST);
        for (int i = 0; i < 7; i++) {
            due("P8 town", x.stop(0, i, 0), i % 2);
            due("P8 day", x.stop(0, i, 1), i);
        }
        due("P8 one alone", x.stop(4, 0, 0) * 10 + x.stop(4, 0, 1), 80);
        for (int i : new int[] {-1, 7, 8, MIN_VALUE, MAX_VALUE}) {
            Checks.noSuch("P8 stop(0, " + i + ", 0)", () -> x.stop(0, i, 0));
            Checks.noSuch("P8 stop(0, " + i + ", 1)", () -> x.stop(0, i, 1));
        }
        Checks.noSuch("P8 one alone has no second", () -> x.stop(4, 1, 0));
        // a longer route of an older land is gone
        Checks.tell(x, "town;judge 0 0 0;");
        Checks.noSuch("P8 the land of old", () -> x.stop(0, 1, 0));
    }

    // Promise 9: "NONE: in none."
    private static void p9Where() {
        ApartBench x = Checks.told("town;town;road 0 1 1;judge 60 0 1 0;");
        for (int day : new int[] {MIN_VALUE, -1, 0, 59, 62, 114, 115, MAX_VALUE}) {
            due("P9 where(0, " + day + ")", x.where(0, day), -1);
        }
        due("P9 the first day", x.where(0, 60), 1);
        due("P9 the last day", x.where(0, 61), 0);
        due("P7 his last day", x.judge(0, 4), 61);
        x.start(0, 0);
        due("P9 day 0", x.where(0, 0) * 10 + x.where(0, 1), 10);
        due("P9 not any more", x.where(0, 60), -1);
        due("P9 day -1", x.where(0, -1), -1);
    }

    // "NONE: it has none", "NONE: nothing", "NONE: never": what an empty one answers
    private static void p10To14Nones() {
        ApartBench x = Checks.told("town;town;judge 3 3 1;judge 3 3 1;case 0 0;");
        due("P10 none", x.proof(0, 1), -1);
        due("P10 nought is a proof", x.proof(0, 0), 0);
        int[] nothing = {-1, -1, -1, 0};
        for (int what = 0; what < 4; what++) {
            due("P11 nothing: said(0, 0, " + what + ")", x.said(0, 0, what), nothing[what]);
        }
        due("P12 never", x.met(0, 1), -1);
        due("P13 never", x.guilty(0, 0), -1);
        due("P13 without", x.guilty(0, 1), 0);
        due("P14 never", x.news(0, 0) * 10 + x.news(0, 1), -11);
        x.word(0, 0, 0);
        due("P14 on day 0", x.news(0, 0), 0);
        due("P14 no way", x.news(0, 1), -1);
        x.word(0, 1, 99);
        due("P14 on day 99", x.news(0, 1), 99);
        ApartBench said = Checks.told("town;judge 0 0 0;case 0 0;");
        int[] first = {0, 0, 0, 0};
        for (int what = 0; what < 4; what++) {
            due("P11 not guilty, on day 0, in town 0: said(0, 0, " + what + ")", said.said(0, 0, what), first[what]);
        }
        due("P14 news of it", said.news(0, 0), 0);
    }

    // Promise 12: "IllegalArgumentException (behind NoSuchElementException): both are one."
    private static void p12Met() {
        ApartBench x = Checks.told(MOST);
        for (int judge = 0; judge < 5; judge++) {
            int j = judge;
            Checks.illegal("P12 both are " + j, () -> x.met(j, j));
        }
        for (int judge : new int[] {-1, 5, MIN_VALUE, MAX_VALUE}) {
            Checks.noSuch("P12 both are " + judge, () -> x.met(judge, judge));
            Checks.noSuch("P12 the first", () -> x.met(judge, 0));
            Checks.noSuch("P12 the second", () -> x.met(0, judge));
        }
        due("P12 the last ones", x.met(3, 4) + x.met(4, 3), -2);
        ApartBench none = new ApartBench();
        Checks.noSuch("P12 nobody", () -> none.met(0, 0));
    }

    // Promise 15: "the DAY as it was. NONE (STATUS 1): not 0 to 60."
    private static void p15Start() {
        ApartBench x = Checks.told(LAND);
        due("P15 0", x.start(0, 0), 1);
        due("P15 60", x.start(0, 60), 0);
        due("P15 as it was", x.start(0, 60), 60);
        int refused = 0;
        for (int day : new int[] {-1, 61, MIN_VALUE, MAX_VALUE, 256, -60}) {
            due("P15 start(0, " + day + ")", x.start(0, day), -1);
            due("P15 STATUS", x.count(14), ++refused);
            due("P15 the day stays", x.judge(0, 1), 60);
            due("P15 it is no ACT", x.count(10), 3);
        }
        due("P15 another one's day stays", x.judge(1, 1) * 10 + x.judge(2, 1), 32);
    }

    // Promise 16: "An INN is burnt or built: true. False (STATUS 1): it is so already."
    private static void p16Inn() {
        ApartBench x = Checks.told(MOST);
        int inns = 0;
        int refused = 0;
        for (int town = 0; town < 9; town++) {
            due("P16 none to burn", one(x.inn(town, false)), 0);
            due("P16 built", one(x.inn(town, true)), 1);
            due("P16 built already", one(x.inn(town, true)), 0);
            inns |= 1 << town;
            refused += 2;
            due("P16 INNS", x.count(5), inns);
            due("P16 STATUS", x.count(14), refused);
            due("P16 ACTS", x.count(10), town + 1);
        }
        due("P16 burnt", one(x.inn(8, false)), 1);
        due("P16 burnt already", one(x.inn(8, false)), 0);
        due("P16 the ninth", x.count(5), 255);
    }

    // Promise 17: "WORD: how many there are. NONE (STATUS 1): there are 4, not 0 to 99."
    private static void p17Word() {
        ApartBench x = Checks.told(LAND);
        int refused = 0;
        for (int day : new int[] {-1, 100, MIN_VALUE, MAX_VALUE}) {
            due("P17 word(1, 2, " + day + ")", x.word(1, 2, day), -1);
            due("P17 STATUS", x.count(14), ++refused);
            due("P17 none is sent", x.count(6) + x.count(10), 0);
        }
        due("P17 99", x.word(1, 2, 99), 1);
        due("P17 0", x.word(0, 0, 0), 2);
        due("P17 the same again", x.word(0, 0, 0), 3);
        due("P17 the fourth", x.word(1, 0, 50), 4);
        due("P17 there are 4", x.word(1, 0, 50), -1);
        due("P17 STATUS", x.count(14), ++refused);
        due("P17 four words, four acts", x.count(6) * 10 + x.count(10), 44);
        due("P17 undone", x.undo(), 3);
        due("P17 room again", x.word(0, 2, 7), 4);
    }

    // Promise 18: "NONE (STATUS 1): there are 4, not 0 to 99, to below from."
    private static void p18Feast() {
        ApartBench x = Checks.told(LAND);
        int refused = 0;
        int[][] outside = {{-1, 5}, {-1, -1}, {5, 100}, {100, 100}, {99, 100}, {5, 4}, {1, 0}, {99, 98}, {99, 0}, {0, -1},
            {MIN_VALUE, MAX_VALUE}, {MAX_VALUE, MIN_VALUE}, {MIN_VALUE, 99}, {0, MAX_VALUE}};
        for (int[] days : outside) {
            due("P18 feast(0, " + days[0] + ", " + days[1] + ")", x.feast(0, days[0], days[1]), -1);
            due("P18 STATUS", x.count(14), ++refused);
            due("P18 there is none", x.count(7) + x.count(10), 0);
        }
        due("P18 from 0 to 99", x.feast(0, 0, 99), 1);
        due("P18 on day 0", x.feast(1, 0, 0), 2);
        due("P18 on day 99", x.feast(1, 99, 99), 3);
        due("P18 to is from", x.feast(2, 42, 42), 4);
        due("P18 there are 4", x.feast(2, 42, 42), -1);
        due("P18 STATUS", x.count(14), ++refused);
        due("P18 four, four acts", x.count(7) * 10 + x.count(10), 44);
        due("P18 undone", x.undo(), 3);
        due("P18 room again", x.feast(2, 42, 43), 4);
    }

    // Promise 19: "NONE (STATUS 1): there are 4, not 0 to 99, not 0 to 20 wide."
    private static void p19Flood() {
        ApartBench x = Checks.told(LAND);
        int refused = 0;
        int[][] outside = {{-1, 0}, {100, 0}, {0, -1}, {0, 21}, {99, 21}, {100, 20}, {100, 21}, {-1, -1}, {MIN_VALUE, 5},
            {MAX_VALUE, 5}, {5, MIN_VALUE}, {5, MAX_VALUE}};
        for (int[] flood : outside) {
            due("P19 flood(0, " + flood[0] + ", " + flood[1] + ")", x.flood(0, flood[0], flood[1]), -1);
            due("P19 STATUS", x.count(14), ++refused);
            due("P19 there is none", x.count(8) + x.count(10), 0);
        }
        due("P19 the least", x.flood(0, 0, 0), 1);
        due("P19 the most", x.flood(2, 99, 20), 2);
        due("P19 the first day, the widest", x.flood(1, 0, 20), 3);
        due("P19 the last day, the least wide", x.flood(1, 99, 0), 4);
        due("P19 there are 4", x.flood(0, 5, 5), -1);
        due("P19 STATUS", x.count(14), ++refused);
        due("P19 four, four acts", x.count(8) * 10 + x.count(10), 44);
        due("P19 undone", x.undo(), 3);
        due("P19 room again", x.flood(0, 5, 5), 4);
    }

    // Promise 20: "The last ACT is UNDONE: how many are left. NONE: there is none."
    private static void p20Undo() {
        ApartBench x = Checks.told(LAND);
        due("P20 none", x.undo(), -1);
        due("P20 that is no STATUS", x.count(14), 0);
        x.start(0, 60);
        x.start(0, 60);
        due("P20 one is left", x.undo() * 100 + x.judge(0, 1), 160);
        due("P20 none is left", x.undo() * 100 + x.judge(0, 1), 1);
        due("P20 none", x.undo(), -1);
        x.inn(0, false);
        x.inn(0, true);
        x.inn(0, false);
        int[] inns = {1, 0, 1};
        for (int i = 0; i < 3; i++) {
            due("P20 the inn", x.undo() * 10 + x.count(5), (2 - i) * 10 + inns[i]);
        }
        for (int i = 1; i <= 4; i++) {
            due("P20 word", x.word(0, 0, i), i);
            due("P20 feast", x.feast(0, i, i), i);
            due("P20 flood", x.flood(0, i, i), i);
        }
        due("P20 refused ones are not kept", x.word(0, 0, 0) + x.feast(0, 0, 0) + x.flood(0, 0, 0), -3);
        for (int i = 3; i >= 0; i--) {
            due("P20 a flood", x.undo() * 100 + x.count(8), (3 * i + 2) * 100 + i);
            due("P20 a feast", x.undo() * 100 + x.count(7), (3 * i + 1) * 100 + i);
            due("P20 a word", x.undo() * 100 + x.count(6), 3 * i * 100 + i);
        }
        due("P20 none", x.undo(), -1);
        due("P20 what is SEEN is no ACT", x.see(0, 0, true) * 10 + x.undo(), 9);
        same("P20 as told", View.of(x).subList(0, 11), View.of(Checks.told(LAND)).subList(0, 11));
    }

    // "(All else as it is.)": what would be is not what is
    private static void p21To27AskOnly() {
        leaves("asking", CallEdgeTest::part, View::of, NO_STATUS);
        leaves("asking when all is full", CallEdgeTest::full, View::of, NO_STATUS);
    }

    // Promise 28: "SEEN: how much is. NONE (STATUS 2): there are 8. NoSuchElementException (ahead): no such CASE, JUDGE."
    private static void p28See() {
        ApartBench x = Checks.told(LAND);
        for (int i = 1; i <= 8; i++) {
            due("P28 see", x.see(i % 2, i % 3, i % 2 == 0), i);
        }
        for (int i = 1; i <= 3; i++) {
            due("P28 there are 8", x.see(0, 0, i == 2), -1);
            due("P28 STATUS 2", x.count(15), i);
            due("P28 it stays 8", x.count(11), 8);
        }
        Checks.noSuch("P28 full, no such CASE", () -> x.see(2, 0, true));
        Checks.noSuch("P28 full, no such JUDGE", () -> x.see(0, 3, false));
        due("P28 these are not refused", x.count(15), 3);
        due("P28 no other STATUS", x.count(13) + x.count(14), 0);
        due("P28 room again", x.forget() * 10 + x.see(0, 0, true), 78);
    }

    // Promise 29: "What was SEEN last is forgotten: how much is left. NONE: there is none."
    private static void p29Forget() {
        ApartBench x = Checks.told("town;judge 0 0 0;case 0 9;");
        due("P29 none", x.forget(), -1);
        x.see(0, 0, false);
        x.see(0, 0, true);
        due("P29 not so", x.sent(0, 2), 0);
        due("P29 the last one", x.forget() * 10 + x.sent(0, 2), 11);
        due("P29 the first one", x.forget(), 0);
        due("P29 none", x.forget(), -1);
        due("P29 that is no STATUS", x.count(13) + x.count(14) + x.count(15), 0);
        x.see(0, 0, true);
        x.see(0, 0, false);
        due("P29 the true one is left", x.forget() * 10 + x.sent(0, 2), 10);
    }

    // Promise 32: "NoSuchElementException: another what. IllegalArgumentException (behind that): n."
    private static void p32Season() {
        for (ApartBench x : new ApartBench[] {new ApartBench(), Checks.told(LAND), full()}) {
            for (int what = 0; what < 3; what++) {
                int w = what;
                for (int n : new int[] {-1, 41, MIN_VALUE, MAX_VALUE}) {
                    Checks.illegal("P32 season(1, " + n + ", " + w + ")", () -> x.season(1, n, w));
                }
                due("P32 0 years", x.season(1, 0, w), 0);
                due("P32 40 years", one(x.season(1, 40, w) >= 0), 1);
            }
            for (int n : new int[] {-1, 0, 40, 41}) {
                Checks.noSuch("P32 what 3", () -> x.season(1, n, 3));
                Checks.noSuch("P32 what -1", () -> x.season(1, n, -1));
            }
        }
    }

    // Promises 33, 34: "AN IMAGE is kept, in place of another one." "It is as the IMAGE again: true. False: there is none."
    private static void p33And34Image() {
        leaves("P34 no image", () -> Checks.told(LAND), x -> due("P34 there is none", one(x.restore()), 0), NO_STATUS);
        ApartBench kept = part();
        kept.image();
        same("P33 an image changes nothing", View.of(kept), View.of(part()));
        ApartBench x = part();
        List<String> before = View.of(x);
        x.image();
        x.start(0, 33);
        x.start(0, 61);
        x.forget();
        due("P34 again", one(x.restore()), 1);
        same("P34 as it was", View.of(x), before);
        due("P34 STATUS too", x.count(14), 1);
        ApartBench twice = Checks.told(LAND);
        twice.start(0, 11);
        twice.image();
        twice.start(0, 22);
        twice.image();
        twice.start(0, 33);
        for (int i = 0; i < 3; i++) {
            due("P33 in place of another one", one(twice.restore()) * 1000 + twice.judge(0, 1) * 10 + twice.count(10), 1222);
            due("P34 acts go on from there", twice.undo() * 100 + twice.judge(0, 1), 111);
        }
        Checks.tell(twice, LAND);
        due("P3 the image is gone", one(twice.restore()), 0);
        due("P34 nothing comes back", twice.judge(0, 1), 1);
    }

    /** No such TOWN, JUDGE, CASE goes ahead of what is refused: no STATUS then. */
    private static void noSuchElementIsAhead() {
        for (ApartBench x : new ApartBench[] {Checks.told(LAND), full()}) {
            for (int day : new int[] {-1, 0, 100}) {
                Checks.noSuch("start", () -> x.start(3, day));
                Checks.noSuch("word, case", () -> x.word(2, 0, day));
                Checks.noSuch("word, town", () -> x.word(0, 3, day));
                Checks.noSuch("feast", () -> x.feast(3, day, day));
                Checks.noSuch("feast backward", () -> x.feast(-1, 5, 4));
                Checks.noSuch("flood", () -> x.flood(3, day, day));
            }
            Checks.noSuch("inn", () -> one(x.inn(3, false)));
            due("no STATUS", x.count(13) + x.count(14) + x.count(15), 0);
        }
    }

    private static void thrownCallsLeaveAll() {
        for (Asked asked : CALLS) {
            for (int i = 0; i < asked.kinds().length(); i++) {
                if (asked.kinds().charAt(i) != '-') {
                    int[] arguments = new int[asked.kinds().length()];
                    arguments[i] = -1;
                    throwsAndLeaves(asked.name() + java.util.Arrays.toString(arguments), Checks.NO_SUCH_ELEMENT,
                            x -> asked.call().ask(x, arguments));
                }
            }
        }
        throwsAndLeaves("met(0, 0)", Checks.ILLEGAL_ARGUMENT, x -> x.met(0, 0));
        throwsAndLeaves("met(0, 3)", Checks.NO_SUCH_ELEMENT, x -> x.met(0, 3));
        throwsAndLeaves("season(1, 41, 0)", Checks.ILLEGAL_ARGUMENT, x -> x.season(1, 41, 0));
        throwsAndLeaves("land(21)", Checks.ILLEGAL_ARGUMENT, x -> x.land(21));
        throwsAndLeaves("land(-1)", Checks.ILLEGAL_ARGUMENT, x -> x.land(-1));
        throwsAndLeaves("count(16)", Checks.NO_SUCH_ELEMENT, x -> x.count(16));
        throwsAndLeaves("stop(0, 2, 0)", Checks.NO_SUCH_ELEMENT, x -> x.stop(0, 2, 0));
    }

    private interface Answer {
        long of(ApartBench x);
    }

    private static void throwsAndLeaves(String what, long thrown, Answer call) {
        leaves(what, () -> {
            ApartBench x = part();
            x.feed(0x746f776e, 0x3b202020, BLANKS, BLANKS, BLANKS);
            return x;
        }, x -> due(what, Checks.answer(() -> call.of(x)), thrown), NO_STATUS);
    }

    private static void refusedCallsLeaveAll() {
        int[] days = {-1, 61};
        for (int day : days) {
            leaves("start", CallEdgeTest::part, x -> due("start", x.start(2, day), -1), 1);
        }
        leaves("inn 0, built", CallEdgeTest::part, x -> due("inn", one(x.inn(0, true)), 0), 1);
        leaves("inn 2, burnt", CallEdgeTest::part, x -> due("inn", one(x.inn(2, false)), 0), 1);
        for (int day : new int[] {-1, 100}) {
            leaves("word", CallEdgeTest::part, x -> due("word", x.word(0, 0, day), -1), 1);
            leaves("feast", CallEdgeTest::part, x -> due("feast", x.feast(0, day, day), -1), 1);
            leaves("flood", CallEdgeTest::part, x -> due("flood", x.flood(0, day, 5), -1), 1);
        }
        leaves("feast backward", CallEdgeTest::part, x -> due("feast", x.feast(0, 5, 4), -1), 1);
        for (int wide : new int[] {-1, 21}) {
            leaves("flood", CallEdgeTest::part, x -> due("flood", x.flood(0, 1, wide), -1), 1);
        }
        leaves("a fifth word", CallEdgeTest::full, x -> due("word", x.word(0, 0, 0), -1), 1);
        leaves("a fifth feast", CallEdgeTest::full, x -> due("feast", x.feast(0, 0, 0), -1), 1);
        leaves("a fifth flood", CallEdgeTest::full, x -> due("flood", x.flood(0, 1, 20), -1), 1);
        leaves("a ninth that is seen", CallEdgeTest::full, x -> due("see", x.see(0, 0, true), -1), 2);
        leaves("undo nothing", () -> Checks.told(LAND), x -> due("undo", x.undo(), -1), NO_STATUS);
        leaves("forget nothing", () -> Checks.told(LAND), x -> due("forget", x.forget(), -1), NO_STATUS);
        leaves("feed a full tape", () -> {
            ApartBench x = part();
            fillTape(x);
            return x;
        }, x -> due("feed", x.feed(1, 2, 3, 4, 5), -1), NO_STATUS);
        leaves("undo nothing at all", ApartBench::new, x -> due("undo", x.undo(), -1), NO_STATUS);
        leaves("forget nothing at all", ApartBench::new, x -> due("forget", x.forget(), -1), NO_STATUS);
        leaves("restore nothing at all", ApartBench::new, x -> due("restore", one(x.restore()), 0), NO_STATUS);
    }

    /** Some of each, an image of fewer, one refused. */
    private static ApartBench part() {
        ApartBench x = Checks.told(LAND);
        x.start(0, 4);
        x.inn(1, true);
        x.word(0, 1, 3);
        x.see(0, 0, true);
        x.image();
        x.feast(2, 3, 3);
        x.flood(1, 4, 1);
        x.start(1, 7);
        x.see(1, 1, false);
        x.start(0, 99);
        return x;
    }

    /** As many of each as there may be. */
    private static ApartBench full() {
        ApartBench x = Checks.told(LAND);
        for (int i = 0; i < 4; i++) {
            x.word(i % 2, i % 3, 30 + i);
            x.feast(i % 3, 20 * i, 20 * i + 1);
            x.flood(i % 3, i, i);
            x.see(i % 2, i % 3, i == 0);
            x.see(i % 2, i % 3, i == 0);
        }
        x.image();
        for (int i = 0; i < 30; i++) {
            x.start(i % 3, i);
        }
        return x;
    }

    private static void fillTape(ApartBench x) {
        for (int i = 0; i < 30; i++) {
            x.feed(BLANKS, BLANKS, BLANKS, BLANKS, BLANKS);
        }
    }

    private static void same(String what, List<String> got, List<String> want) {
        due(what + ": as many answers", got.size(), want.size());
        for (int i = 0; i < Math.min(got.size(), want.size()); i++) {
            due(what + ": " + got.get(i) + ", due is " + want.get(i), one(got.get(i).equals(want.get(i))), 1);
        }
    }

    /** Of two alike one gets a call: both must answer alike ever after, but for one STATUS that grows. */
    private static void leaves(String what, Supplier<ApartBench> state, Consumer<ApartBench> call, int status) {
        ApartBench x = state.get();
        ApartBench twin = state.get();
        call.accept(x);
        for (int i = 0; i < 3; i++) {
            due(what + ": STATUS " + i, x.count(13 + i) - twin.count(13 + i), one(i == status));
        }
        due(what + ": the tape", x.count(12), twin.count(12));
        same(what, View.of(x), View.of(twin));
        for (int i = 0; i < 12; i++) {
            due(what + ": undo", x.undo(), twin.undo());
            due(what + ": undone", undone(x), undone(twin));
        }
        due(what + ": forget", x.forget(), twin.forget());
        due(what + ": restore", one(x.restore()), one(twin.restore()));
        for (int i = 5; i < 16; i++) {
            due(what + ": restored, count(" + i + ")", x.count(i), twin.count(i));
        }
    }

    private static long undone(ApartBench x) {
        long sum = x.count(3) == 0 ? 0 : x.judge(0, 1);
        for (int what = 5; what < 9; what++) {
            sum = sum * 10 + x.count(what);
        }
        return sum;
    }

    // "An object is used for at most 512 calls": the last of them still answers as due
    private static void the512thCall() {
        ApartBench x = new ApartBench();
        x.feed(0x746f776e, 0x3b6a7564, 0x67652030, 0x20302030, 0x3b202020);
        x.land(20);
        for (int call = 3; call <= 510; call++) {
            due("call " + call, x.start(0, call % 2 == 0 ? call % 61 : 61), call % 2 == 0 ? before(call) : -1);
        }
        due("call 511", x.count(14), 254);
        due("call 512", x.undo(), 39);
    }

    private static int before(int call) {
        return call == 4 ? 0 : (call - 2) % 61;
    }
}
