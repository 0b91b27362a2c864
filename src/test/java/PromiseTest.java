import static java.lang.Integer.MAX_VALUE;
import static java.lang.Integer.MIN_VALUE;

/** Each promise by hand: ordinary inputs, the edges that the document names, wrong inputs. */
public final class PromiseTest {
    /** No roads, so no news: three who speak on days 0, 1, 2 in three towns. */
    private static final String APART = "town;town;town;judge 0 5 0;judge 1 5 1;judge 2 5 2;case 0 9 1 9 2 9;";
    /** A row of three towns, two days and three days apart. */
    private static final String ROW = "town inn;town;town inn;road 0 1 2;road 1 2 3;";
    private static final int[] ODD = {-1, MIN_VALUE, MAX_VALUE};

    public static void main(String[] args) {
        newObject();
        feed();
        land();
        count();
        far();
        judgeStopWhere();
        proof();
        said();
        lawValues();
        lawArithmetic();
        voids();
        met();
        guilty();
        news();
        start();
        inn();
        word();
        feast();
        flood();
        undo();
        burn();
        when();
        round();
        free();
        mercy();
        deaf();
        soonest();
        seeAndForget();
        sent();
        game();
        season();
        imageAndRestore();
        oddNumbersThrowOnlyWhatIsPromised();
        Checks.finish("PromiseTest");
    }

    private static void due(String what, long got, long want) {
        Checks.due(what, got, want);
    }

    private static int one(boolean b) {
        return b ? 1 : 0;
    }

    private static void newObject() {
        ApartBench x = new ApartBench();
        for (int what = 0; what < 16; what++) {
            due("P1 count(" + what + ")", x.count(what), what == 2 ? 10 : 0);
        }
        due("P1 NONE", ApartBench.NONE, -1);
        due("P1 fault()", x.fault(), -1);
        due("P1 undo()", x.undo(), -1);
        due("P1 forget()", x.forget(), -1);
        due("P1 restore()", one(x.restore()), 0);
        due("P1 burn(0)", x.burn(0), -1);
        due("P1 burn(1)", x.burn(1), -1);
        due("P1 soonest(0)", x.soonest(0), -1);
        due("P1 soonest(1)", x.soonest(1), -1);
        due("P1 land(0)", x.land(0), 0);
    }

    private static void feed() {
        ApartBench x = new ApartBench();
        // "town" "inn;" and blanks: of each number the highest byte first
        due("P2 feed", x.feed(0x746f776e, 0x20696e6e, 0x3b202020, 0x20202020, 0x20202020), 20);
        due("P2 bytes of the tape", x.count(12), 20);
        due("P2 highest first", x.land(20), 0);
        due("P2 the inn is told", x.count(5), 1);
        for (int i = 1; i <= 30; i++) {
            due("P2 feed " + i, x.feed(0x20202020, 0x20202020, 0x20202020, 0x20202020, 0x20202020), 20 * i);
        }
        due("P2 more than 600", x.feed(1, 2, 3, 4, 5), -1);
        due("P2 none came", x.count(12), 600);
        due("P2 all 600 are blanks", x.land(600), 0);
        due("P2 room again", x.feed(-1, 0, 0, 0, 0), 20);
        due("P2 the byte 255 is no token", x.land(1), 1);
    }

    private static void land() {
        ApartBench x = Checks.told("town;");
        x.feed(0x746f776e, 0x3b746f77, 0x6e3b2020, 0x20202020, 0x20202020);
        Checks.illegal("P3 more than the tape has", () -> x.land(21));
        Checks.illegal("P3 below 0", () -> x.land(-1));
        Checks.illegal("P3 far below 0", () -> x.land(MIN_VALUE));
        Checks.illegal("P3 far too many", () -> x.land(MAX_VALUE));
        due("P3 nothing changes", x.count(12) * 100 + x.count(0) * 10 + x.count(13), 2010);
        due("P3 the first 10 bytes alone", x.land(10), 0);
        due("P3 two towns", x.count(0), 2);
        due("P3 the rest is gone too", x.count(12), 0);
        due("P3 cut off", Checks.tell(x, "town;tow"), 1);
        due("P4 its place", x.fault(), 5);
        Checks.illegal("P4 a land that throws", () -> x.land(1));
        due("P4 is no land", x.fault(), 5);
        due("P3 nothing at all is a land", x.land(0), 0);
        due("P4 no fault", x.fault(), -1);
        due("P3 no towns", x.count(0), 0);
        landAfterLand();
    }

    /** Nothing of an older text, with a fault or not, is left in a later one. */
    private static void landAfterLand() {
        String old = "town inn;town;town;road 0 1 1;road 1 2 1;gossip 30;wise 7 7 2 1 0;case 0 9 1 9 2 9;law proof;";
        ApartBench x = new ApartBench();
        for (int i = 0; i < 4; i++) {
            due("P3 the old text", Checks.tell(x, old), 0);
            due("P3 with a fault", Checks.tell(x, old + "x"), 1);
            due("P3 a later text", Checks.tell(x, "town;town;town;judge 1 0 0;case 0 4;case 1 5;"), 0);
            due("P3 its gossip", x.count(2), 10);
            due("P3 its inns", x.count(5), 0);
            due("P3 its roads", x.far(0, 1, 0) * 10 + x.far(2, 1, 0), -11);
            due("P3 its proofs", x.proof(0, 1) * 10 + x.proof(1, 1), -5);
            due("P3 its judge", x.judge(0, 0) * 100 + x.judge(0, 3) * 10 + x.judge(0, 1), 11);
            due("P3 it has no law", x.said(0, 0, 0), 0);
            due("P3 its towns are not joined", Checks.tell(x, "town;town;town;judge 1 0 0 1;"), 6);
            due("P3 a road, a law and a gossip again", Checks.tell(x, "town;town;road 0 1 1;gossip 2;law 1;"), 0);
        }
    }

    private static void count() {
        ApartBench x = Checks.told(ROW + "gossip 25;judge 0 0 0;wise 0 0 1;case 0 1;case 0 1;case 0 1;");
        int[] want = {3, 2, 25, 2, 3, 5, 0, 0, 0, 0, 0, 0, 0, 0, 0, 0};
        for (int what = 0; what < 16; what++) {
            due("P5 count(" + what + ")", x.count(what), want[what]);
        }
        Checks.noSuch("P5 another what", () -> x.count(16));
        for (int odd : ODD) {
            Checks.noSuch("P5 count(" + odd + ")", () -> x.count(odd));
        }
        due("P5 without gossip", Checks.told(ROW).count(2), 10);
    }

    private static void far() {
        ApartBench x = Checks.told("town;town;town;town;road 0 1 9;road 0 2 2;road 2 1 1;gossip 15;");
        due("P6 the shortest way", x.far(0, 1, 0), 3);
        due("P6 the other way", x.far(1, 0, 0), 3);
        due("P6 news: 4.5 cut up", x.far(0, 1, 1), 5);
        due("P6 news: 3.0", x.far(0, 2, 1), 3);
        due("P6 to itself", x.far(2, 2, 0), 0);
        due("P6 news to itself", x.far(2, 2, 1), 0);
        due("P6 no way", x.far(0, 3, 0), -1);
        due("P6 no news", x.far(3, 0, 1), -1);
        due("P6 itself without roads", x.far(3, 3, 1), 0);
        Checks.noSuch("P6 no such town", () -> x.far(4, 0, 0));
        Checks.noSuch("P6 no such other", () -> x.far(0, 4, 0));
        Checks.noSuch("P6 below 0", () -> x.far(0, -1, 0));
        Checks.noSuch("P6 what", () -> x.far(0, 0, 2));
        Checks.noSuch("P6 what", () -> x.far(0, 0, -1));
        due("P6 a tenth is cut up to a day", Checks.told("town;town;road 0 1 1;gossip 1;").far(0, 1, 1), 1);
    }

    private static void judgeStopWhere() {
        ApartBench x = Checks.told(ROW + "judge 4 7 0 1 2 1;deaf 60 0 2;wise 0 9 1;");
        int[][] want = {{0, 4, 7, 4, 12}, {1, 60, 0, 1, 60}, {2, 0, 9, 1, 0}};
        for (int j = 0; j < 3; j++) {
            for (int what = 0; what < 5; what++) {
                due("P7 judge(" + j + ", " + what + ")", x.judge(j, what), want[j][what]);
            }
        }
        Checks.noSuch("P7 what", () -> x.judge(0, 5));
        Checks.noSuch("P7 what", () -> x.judge(0, -1));
        Checks.noSuch("P7 judge", () -> x.judge(3, 0));
        Checks.noSuch("P7 judge", () -> x.judge(-1, 0));
        int[] towns = {0, 1, 2, 1};
        int[] days = {4, 6, 9, 12};
        for (int i = 0; i < 4; i++) {
            due("P8 town " + i, x.stop(0, i, 0), towns[i]);
            due("P8 day " + i, x.stop(0, i, 1), days[i]);
            due("P9 where on " + days[i], x.where(0, days[i]), towns[i]);
            due("P9 where behind " + days[i], x.where(0, days[i] + 1), -1);
        }
        Checks.noSuch("P8 no such stop", () -> x.stop(0, 4, 0));
        Checks.noSuch("P8 no such stop", () -> x.stop(0, -1, 1));
        Checks.noSuch("P8 what", () -> x.stop(0, 0, 2));
        Checks.noSuch("P8 judge", () -> x.stop(3, 0, 0));
        due("P9 before", x.where(0, 3), -1);
        due("P9 below 0", x.where(0, -1), -1);
        due("P9 far", x.where(0, MAX_VALUE), -1);
        Checks.noSuch("P9 judge", () -> x.where(3, 0));
        ApartBench last = Checks.told("town;town;road 0 1 9;judge 60 0 0 1 0 1 0 1 0;judge 60 0 0 1 0 1 0 1;case 0 9;");
        due("P7 the last day of all", last.judge(0, 4), 114);
        last.feast(0, 60, 99);
        due("P11 heard on it", last.said(0, 0, 1), 114);
        due("P11 not heard", last.said(0, 1, 1), -1);
        x.start(0, 10);
        due("P7 his day is another one", x.judge(0, 1), 10);
        due("P7 his last day too", x.judge(0, 4), 18);
        due("P8 set out later", x.stop(0, 2, 1), 15);
        due("P9 set out later", x.where(0, 4), -1);
        due("P9 set out later", x.where(0, 15), 2);
    }

    private static void proof() {
        ApartBench x = Checks.told(ROW + "case 2 0 0 9;");
        due("P10 none", x.proof(0, 1), -1);
        due("P10 zero", x.proof(0, 2), 0);
        due("P10 nine", x.proof(0, 0), 9);
        Checks.noSuch("P10 case", () -> x.proof(1, 0));
        Checks.noSuch("P10 town", () -> x.proof(0, 3));
    }

    private static void saidRow(String what, ApartBench x, int cause, int judge, int... want) {
        for (int i = 0; i < 4; i++) {
            due(what + ": said(" + cause + ", " + judge + ", " + i + ")", x.said(cause, judge, i), want[i]);
        }
    }

    private static void said() {
        ApartBench x = Checks.told(ROW + "gossip 40;judge 0 0 0 1 2;wise 9 0 1;deaf 9 0 0;case 1 5 2 9;case 1 4 0 4;");
        saidRow("P11 more than 4 is guilty", x, 0, 0, 1, 2, 1, 0);
        saidRow("P11 heard but once, where he came first", x, 1, 0, 0, 0, 0, 0);
        saidRow("P11 a wise one, news in time", x, 0, 1, 0, 9, 1, 1);
        saidRow("P11 a wise one where it does not hold", x, 1, 1, 1, 9, 1, 1);
        saidRow("P11 not heard", x, 0, 2, -1, -1, -1, 0);
        saidRow("P11 a deaf one", x, 1, 2, 0, 9, 0, 0);
        Checks.noSuch("P11 what", () -> x.said(0, 0, 4));
        Checks.noSuch("P11 what", () -> x.said(0, 0, -1));
        Checks.noSuch("P11 case", () -> x.said(2, 0, 0));
        Checks.noSuch("P11 judge", () -> x.said(0, 3, 0));
    }

    private static int says(String law) {
        return Checks.told("town;town;judge 9 3 1;case 1 7;law " + law + ";").said(0, 0, 0);
    }

    private static void lawValues() {
        due("proof", says("proof=7"), 1);
        due("harsh", says("harsh=3"), 1);
        due("day", says("day=9"), 1);
        due("town", says("town=1"), 1);
        due("said by nobody", says("said=0"), 1);
        String land = "town;town;judge 0 0 0;judge 1 0 1;judge 1 0 1;judge 3 0 0;case 0 1 1 1;law said=";
        int[] before = {0, 1, 1, 3};
        for (int j = 0; j < 4; j++) {
            for (int many = 0; many < 5; many++) {
                due("said of earlier days alone, " + j, Checks.told(land + many + ";").said(0, j, 0),
                        one(before[j] == many));
            }
        }
    }

    private static void lawArithmetic() {
        String[] hold = {"1", "9999", "7-5-1=1", "20/3/2=3", "2+3*4=14", "(2+3)*4=20", "(1-8)/2=0-3", "5/0=0", "not 0",
            "not (0-1)=0", "2<3", "not 3<3", "0 or 5", "1 and 2", "(3 or 0)=1", "(3 and 2)=1", "(not 0)=1", "not not 7=7",
            "(not not 7)=1", "1 or 0 and 0", "0-1 or 0", "9999*9999*22<0",
            "(2<3)=1", "(3=3)=1", "(4<3)=0", "(4=3)=0", "(not 5)=0"};
        for (String law : hold) {
            due("law " + law, says(law), 1);
        }
        String[] fail = {"0", "0-1", "3-4", "not 1", "not (0-1)", "1 and 0", "0 or 0", "1<0-1", "4/5", "(1-9)/9",
            "(0 or 0) and 1", "1=2", "9999*9999*22"};
        for (String law : fail) {
            due("law " + law, says(law), 0);
        }
        due("a wise one just if it gives no more than 0",
                Checks.told("town;wise 0 0 0;case 0 9;law 0-1;").said(0, 0, 0), 1);
        due("without a law 5 is enough", Checks.told("town;judge 0 0 0;case 0 5;").said(0, 0, 0), 1);
        due("without a law 4 is not", Checks.told("town;judge 0 0 0;case 0 4;").said(0, 0, 0), 0);
    }

    private static void voids() {
        String land = "town;town;town;road 0 1 2;road 1 2 1;gossip 10;judge 3 0 0;case 0 9 1 9;";
        due("on the day on which news comes", Checks.told(land + "judge 5 0 1;").said(0, 1, 3), 1);
        due("a day ahead of it", Checks.told(land + "judge 4 0 1;").said(0, 1, 3), 0);
        due("on one day in one town none knows", Checks.told(land + "judge 3 0 0;").said(0, 1, 3), 0);
        due("a day later in that town", Checks.told(land + "judge 4 0 0;").said(0, 1, 3), 1);
        due("where he was ahead of saying it", Checks.told(land + "judge 6 0 2 1;").said(0, 1, 3), 1);
        due("not where he goes later", Checks.told(land + "judge 3 0 1 0;").said(0, 1, 3), 0);
        due("a deaf one", Checks.told(land + "deaf 9 0 1;").said(0, 1, 3), 0);
        due("what is not guilty is news too", Checks.told(land + "judge 9 0 1;law 0;").said(0, 1, 3), 1);
        String chain = "town;town;road 0 1 9;gossip 40;judge 0 0 0;judge 1 0 0 1;judge 40 0 1;case 0 9;case 1 9;";
        due("what is void is news too", Checks.told(chain).said(0, 1, 3), 1);
        due("of another case it is none", Checks.told(chain).said(1, 1, 3), 0);
        ApartBench x = Checks.told(land + "judge 4 0 1;");
        due("word", x.word(0, 2, 4), 1);
        due("word comes a day too late", x.said(0, 1, 3), 0);
        x.undo();
        x.word(0, 2, 3);
        due("word comes on the day", x.said(0, 1, 3), 1);
        x.undo();
        x.word(0, 1, 4);
        due("word of that day in that town", x.said(0, 1, 3), 1);
        due("word reaches one who speaks first too", x.said(0, 0, 3), 0);
    }

    private static void met() {
        ApartBench x = Checks.told(ROW + "judge 0 0 0 1 2;deaf 0 0 2 1 0;judge 5 0 2;judge 6 0 1;");
        due("P12 in an inn", x.met(0, 2), 5);
        due("P12 as well", x.met(2, 0), 5);
        due("P12 never in one place", x.met(0, 1), -1);
        due("P12 never", x.met(1, 3), -1);
        x.inn(2, false);
        due("P12 no inn", x.met(0, 2), -1);
        Checks.illegal("P12 both are one", () -> x.met(1, 1));
        Checks.noSuch("P12 no such judge goes ahead", () -> x.met(4, 4));
        Checks.noSuch("P12 no such judge", () -> x.met(0, 4));
        Checks.noSuch("P12 below 0", () -> x.met(-1, 0));
        ApartBench y = Checks.told("town inn;town;road 0 1 1;judge 0 0 0 1 0 1;judge 0 0 0 1 0 1;");
        due("P12 the first day", y.met(0, 1), 0);
        y.inn(0, false);
        y.inn(1, true);
        due("P12 the next inn", y.met(0, 1), 1);
    }

    private static void guilty() {
        ApartBench x = Checks.told(APART);
        due("P13 the day of the last one", x.guilty(0, 0), 2);
        due("P13 by whom", x.guilty(0, 1), 7);
        Checks.noSuch("P13 what", () -> x.guilty(0, 2));
        Checks.noSuch("P13 what", () -> x.guilty(0, -1));
        Checks.noSuch("P13 case", () -> x.guilty(1, 0));
        ApartBench two = Checks.told("town;town;judge 0 5 0;deaf 1 5 1;deaf 2 5 1;case 0 9 1 9;");
        due("P13 two towns are too few", two.guilty(0, 0), -1);
        due("P13 nobody", two.guilty(0, 1), 0);
        String four = "town;town;town;town;judge 5 0 0;judge 5 0 1;judge 5 0 2;judge 5 0 3;case 0 9 1 9 2 9 3 9;";
        due("P13 the first three as a row", Checks.told(four).guilty(0, 1), 7);
        ApartBench later = Checks.told(four);
        later.start(0, 9);
        due("P13 the first day goes ahead of the row", later.guilty(0, 1), 14);
        due("P13 that day", later.guilty(0, 0), 5);
        String meet = "town;town;town;town inn;road 0 3 1;road 1 3 1;gossip 40;judge 0 0 0 3;judge 0 0 1 3;judge ";
        due("P13 met by then", Checks.told(meet + "1 0 2;case 0 9 1 9 2 9;").guilty(0, 0), -1);
        due("P13 met later", Checks.told(meet + "0 0 2;case 0 9 1 9 2 9;").guilty(0, 0), 0);
        due("P13 a meeting does not undo it", Checks.told(meet + "0 0 2;case 0 9 1 9 2 9;").met(0, 1), 1);
        due("P13 one who says no", Checks.told(meet + "0 0 2;case 0 9 1 9 2 4;").guilty(0, 0), -1);
    }

    private static void news() {
        ApartBench x = Checks.told(ROW + "town;gossip 5;judge 3 0 0;judge 4 0 2;case 0 1 2 1;case 1 1;");
        due("P14 where it was said", x.news(0, 0), 3);
        due("P14 the first of both", x.news(0, 1), 4);
        due("P14 elsewhere", x.news(0, 2), 4);
        due("P14 no way", x.news(0, 3), -1);
        due("P14 nothing was said", x.news(1, 1), -1);
        x.word(1, 3, 99);
        due("P14 by word", x.news(1, 3), 99);
        due("P14 word has no way", x.news(1, 0), -1);
        Checks.noSuch("P14 case", () -> x.news(2, 0));
        Checks.noSuch("P14 town", () -> x.news(0, 4));
    }

    private static void start() {
        ApartBench x = Checks.told(APART);
        due("P15 as it was", x.start(2, 60), 2);
        due("P15 another time", x.start(2, 0), 60);
        due("P15 it is so", x.judge(2, 1), 0);
        due("P15 guilty sooner", x.guilty(0, 0), 1);
        due("P15 over 60", x.start(0, 61), -1);
        due("P15 below 0", x.start(0, -1), -1);
        due("P15 status", x.count(14), 2);
        due("P15 acts", x.count(10), 2);
        due("P15 the same day is an act", x.start(0, 0), 0);
        due("P15 it is kept", x.count(10), 3);
        Checks.noSuch("P15 judge, ahead", () -> x.start(3, 99));
        due("P15 which is not refused", x.count(14), 2);
    }

    private static void inn() {
        ApartBench x = Checks.told(ROW);
        due("P16 burnt", one(x.inn(0, false)), 1);
        due("P16 burnt already", one(x.inn(0, false)), 0);
        due("P16 built", one(x.inn(1, true)), 1);
        due("P16 built already", one(x.inn(1, true)), 0);
        due("P16 inns", x.count(5), 6);
        due("P16 status", x.count(14), 2);
        due("P16 acts", x.count(10), 2);
        Checks.noSuch("P16 town", () -> one(x.inn(3, true)));
        Checks.noSuch("P16 town", () -> one(x.inn(-1, false)));
    }

    private static void word() {
        ApartBench x = Checks.told(APART);
        due("P17 over 99", x.word(0, 0, 100), -1);
        due("P17 below 0", x.word(0, 0, -1), -1);
        for (int i = 1; i <= 4; i++) {
            due("P17 word " + i, x.word(0, 2, 33 * (i - 1)), i);
        }
        due("P17 there are 4", x.word(0, 0, 0), -1);
        due("P17 status", x.count(14), 3);
        due("P17 words", x.count(6), 4);
        due("P17 it is void by that of day 0", x.said(0, 2, 3), 1);
        due("P17 not guilty any more", x.guilty(0, 0), -1);
        Checks.noSuch("P17 case, ahead", () -> x.word(1, 0, 0));
        Checks.noSuch("P17 town, ahead", () -> x.word(0, 3, 0));
        due("P17 status stays", x.count(14), 3);
    }

    private static void feast() {
        ApartBench x = Checks.told(APART);
        due("P18 to below from", x.feast(0, 5, 4), -1);
        due("P18 from below 0", x.feast(0, -1, 4), -1);
        due("P18 to over 99", x.feast(0, 5, 100), -1);
        due("P18 status", x.count(14), 3);
        due("P18 the day ahead", x.feast(1, 0, 0), 1);
        due("P18 changes nothing", x.guilty(0, 0), 2);
        due("P18 the day behind", x.feast(1, 2, 99), 2);
        due("P18 changes nothing", x.guilty(0, 0), 2);
        due("P18 on that very day", x.feast(1, 1, 1), 3);
        due("P18 he hears nothing", x.said(0, 1, 0), -1);
        due("P18 not guilty", x.guilty(0, 0), -1);
        due("P18 the fourth", x.feast(0, 99, 99), 4);
        due("P18 there are 4", x.feast(0, 0, 0), -1);
        due("P18 feasts", x.count(7), 4);
        Checks.noSuch("P18 town, ahead", () -> x.feast(3, 5, 4));
        ApartBench y = Checks.told(ROW + "judge 0 0 0 1 0;case 0 9;");
        y.feast(0, 0, 3);
        due("P18 he hears it when he comes again", y.said(0, 0, 1), 4);
        y.feast(0, 1, 4);
        due("P18 never", y.said(0, 0, 1), -1);
    }

    private static void flood() {
        ApartBench x = Checks.told("town;town;town;town;road 0 1 2;road 1 2 3;judge 5 0 0;judge 5 0 2;judge 5 0 3;judge 6 0 1;");
        due("P19 not wide enough for the other one", x.flood(1, 5, 2), 1);
        due("P19 they do not meet", x.met(0, 1), -1);
        due("P19 as wide as it is far", x.flood(1, 5, 3), 2);
        due("P19 they meet", x.met(0, 1), 5);
        due("P19 no way to him", x.met(0, 2), -1);
        due("P19 on another day", x.met(0, 3), -1);
        x.undo();
        due("P19 another day", x.flood(1, 4, 20), 2);
        due("P19 they do not meet", x.met(0, 1), -1);
        due("P19 over 99", x.flood(0, 100, 0), -1);
        due("P19 below 0", x.flood(0, -1, 0), -1);
        due("P19 over 20", x.flood(0, 0, 21), -1);
        due("P19 below 0 wide", x.flood(0, 0, -1), -1);
        due("P19 the third", x.flood(0, 99, 20), 3);
        due("P19 the fourth", x.flood(0, 0, 0), 4);
        due("P19 there are 4", x.flood(0, 0, 0), -1);
        due("P19 status", x.count(14), 5);
        due("P19 floods", x.count(8), 4);
        Checks.noSuch("P19 town, ahead", () -> x.flood(4, 100, 0));
        ApartBench y = Checks.told("town;judge 5 0 0;judge 5 0 0;");
        due("P19 no inn", y.met(0, 1), -1);
        y.flood(0, 5, 0);
        due("P19 nought wide, in that town", y.met(0, 1), 5);
    }

    private static void undo() {
        ApartBench x = Checks.told(ROW + "judge 7 0 0;case 0 9;");
        x.start(0, 8);
        x.inn(0, false);
        x.word(0, 1, 1);
        x.feast(0, 8, 8);
        x.flood(0, 8, 8);
        x.start(0, 61);
        due("P20 five are kept", x.count(10), 5);
        due("P20 the flood", x.undo() * 10 + x.count(8), 40);
        due("P20 the feast", x.undo() * 10 + x.count(7), 30);
        due("P20 said again", x.said(0, 0, 1), 8);
        due("P20 the word", x.undo() * 10 + x.count(6), 20);
        due("P20 the inn", x.undo() * 10 + x.count(5), 15);
        due("P20 the day", x.undo() * 10 + x.judge(0, 1), 7);
        due("P20 none", x.undo(), -1);
        due("P20 status is not undone, nor is undo() refused", x.count(14), 1);
        x.word(0, 1, 1);
        for (int i = 1; i <= 41; i++) {
            x.start(0, i);
        }
        due("P20 at most 40", x.count(10), 40);
        for (int i = 39; i >= 0; i--) {
            due("P20 left", x.undo(), i);
        }
        due("P20 the first ones are kept no more", x.undo(), -1);
        due("P20 the word stays", x.count(6), 1);
        due("P20 the first start stays", x.judge(0, 1), 1);
    }

    private static void burn() {
        String land = "town inn;town inn;town;town;town;road 0 2 1;road 0 3 1;road 1 3 1;road 1 4 1;gossip 40;"
                + "judge 0 0 2 0;judge 0 0 3 0;judge 0 0 4 1;case 2 9 3 9 4 9;case 0 9 3 9 4 9;";
        ApartBench x = Checks.told(land);
        due("P21 all meet too late for one", x.count(9), 1);
        due("P21 the inn in which two meet", x.burn(0), 0);
        due("P21 then both are guilty", x.burn(1), 2);
        x.inn(0, false);
        due("P21 the one that is left", x.burn(0), 1);
        due("P21 it changes nothing", x.burn(1), 2);
        due("P21 nothing is burnt", x.count(5), 2);
        due("P21 nor kept", x.count(10), 1);
        x.inn(1, false);
        due("P21 no inn", x.burn(0), -1);
        due("P21 none", x.burn(1), -1);
        Checks.noSuch("P21 what", () -> x.burn(2));
        Checks.noSuch("P21 what", () -> x.burn(-1));
        due("P21 of like ones the least", Checks.told("town;town inn;town inn;").burn(0), 1);
        due("P21 nobody is guilty", Checks.told("town;town inn;town inn;").burn(1), 0);
    }

    private static void when() {
        String land = "town;town;town;road 0 1 5;gossip 10;judge 10 0 0;judge 60 0 1;judge 0 0 2;case 0 9 1 9 2 9;";
        ApartBench x = Checks.told(land);
        due("P22 void as it is", x.count(9), 0);
        due("P22 from 6 on it is not void to him, and his news is not ahead", x.when(1, 0), 6);
        due("P22 one is guilty", x.when(1, 1), 1);
        due("P22 he can go as late as he likes", x.when(0, 0), 56);
        due("P22 it changes nothing for one apart", x.when(2, 0), 0);
        due("P22 and none is guilty", x.when(2, 1), 0);
        due("P22 nobody sets out", x.judge(1, 1), 60);
        due("P22 on the last day alone", Checks.told(land.replace("0 1 5", "0 1 1")).when(0, 0), 60);
        Checks.noSuch("P22 what", () -> x.when(0, 2));
        Checks.noSuch("P22 judge", () -> x.when(3, 0));
    }

    private static void round() {
        ApartBench x = Checks.told("town;town;town;town;road 0 3 1;gossip 40;judge 5 0 0 3;judge 5 0 1;judge 5 0 2;judge 6 0 0;"
                + "case 3 9 1 9 2 9;case 0 9 1 9 2 9;case 3 9;");
        due("P23 two are guilty as it is", x.count(9), 2);
        due("P23 the other way round as many", x.round(0), 0);
        due("P23 one town is its own way back", x.round(1), 0);
        ApartBench more = Checks.told("town;town;town;town inn;road 0 3 1;gossip 40;judge 5 0 0 3;judge 6 0 3;judge 5 0 1;judge 7 0 2;"
                + "case 0 9 1 9 2 9;");
        due("P23 guilty", more.count(9), 1);
        due("P23 later in that town, but guilty still", more.round(0), 0);
        ApartBench fewer = Checks.told("town;town;town;road 0 1 1;judge 0 0 0 1;judge 0 0 1;judge 0 0 2;case 0 9 1 9 2 9;");
        due("P23 guilty", fewer.count(9), 1);
        due("P23 two in one town: fewer", fewer.round(0), -1);
        ApartBench back = Checks.told("town;town;town;road 0 1 1;judge 0 0 1 0;judge 0 0 1;judge 0 0 2;case 0 9 1 9 2 9;");
        due("P23 more", back.round(0), 1);
        due("P23 the route stays", back.stop(0, 0, 0), 1);
        Checks.noSuch("P23 judge", () -> x.round(4));
    }

    private static void free() {
        ApartBench x = Checks.told("town;town;town;town;road 2 3 9;gossip 10;deaf 5 0 0;deaf 5 0 1;judge 20 0 2;case 0 9 1 9 2 9;case 0 1;");
        due("P24 guilty", x.guilty(0, 0), 20);
        due("P24 on day 0", x.free(0, 0), 0);
        due("P24 from the least town from which it comes", x.free(0, 1), 2);
        due("P24 it isn't guilty", x.free(1, 0), -2);
        due("P24 it isn't guilty", x.free(1, 1), -2);
        for (int i = 0; i < 4; i++) {
            x.word(1, 0, i);
        }
        due("P24 a fifth too", x.free(0, 1), 2);
        due("P24 none is sent", x.count(6), 4);
        Checks.noSuch("P24 what", () -> x.free(0, 2));
        Checks.noSuch("P24 case", () -> x.free(2, 0));
        ApartBench deafs = Checks.told("town;town;town;deaf 0 0 0;deaf 0 0 1;deaf 0 0 2;case 0 9 1 9 2 9;");
        due("P24 none", deafs.free(0, 0), -1);
        due("P24 none", deafs.free(0, 1), -1);
        ApartBench late = Checks.told("town;town;town;deaf 0 0 0;deaf 0 0 1;judge 0 0 2;case 0 9 1 9 2 9;");
        due("P24 on the very day", late.free(0, 0) * 10 + late.free(0, 1), 2);
    }

    private static void mercy() {
        ApartBench x = Checks.told(APART);
        due("P25 one mule, to the least", x.mercy(0), 1);
        ApartBench four = Checks.told("town;town;town;town;judge 0 0 0;judge 0 0 1;judge 0 0 2;judge 0 0 3;case 0 9 1 9 2 9 3 9;case 0 1;");
        due("P25 of four two", four.mercy(0), 3);
        due("P25 not guilty as it is", four.mercy(1), 0);
        Checks.noSuch("P25 case", () -> four.mercy(2));
        ApartBench deaf = Checks.told("town;town;town;town;deaf 0 0 0;judge 0 0 1;judge 0 0 2;deaf 0 0 3;case 0 9 1 9 2 9 3 9;");
        due("P25 a deaf one hears no mule", deaf.mercy(0), 6);
        ApartBench none = Checks.told("town;town;town;town;deaf 0 0 0;judge 0 0 1;deaf 0 0 2;deaf 0 0 3;case 0 9 1 9 2 9 3 9;");
        due("P25 none", none.mercy(0), -1);
        ApartBench five = Checks.told("town;town;town;town;town;judge 0 0 0;judge 0 0 1;judge 0 0 2;judge 0 0 3;judge 0 0 4;"
                + "case 0 9 1 9 2 9 3 9 4 9;");
        due("P25 of five three", five.mercy(0), 7);
    }

    private static void deaf() {
        String land = "town;town;town;road 0 1 1;gossip 10;judge 0 0 0;judge 9 0 1;deaf 3 0 2;case 0 9 1 9 2 9;case 1 9;";
        ApartBench x = Checks.told(land);
        due("P26 void as it is", x.count(9), 0);
        due("P26 were he deaf", x.deaf(1), 1);
        due("P26 were the first one deaf", x.deaf(0), 0);
        due("P26 he is not", x.judge(1, 0), 0);
        ApartBench y = Checks.told(land.replace("judge 9", "deaf 9"));
        due("P26 guilty", y.count(9), 1);
        due("P26 not deaf", y.deaf(1), 0);
        due("P26 not deaf, but none told him", y.deaf(2), 1);
        ApartBench wise = Checks.told(land.replace("judge 9", "wise 9").replace("1 9 2 9", "1 2 2 9"));
        due("P26 a wise one is void", wise.count(9), 0);
        due("P26 a wise one is wise still", wise.deaf(1), 1);
        Checks.noSuch("P26 judge", () -> x.deaf(3));
    }

    private static void soonest() {
        ApartBench x = Checks.told("town;town;town;town;judge 4 0 0;judge 5 0 1;judge 6 0 2;judge 30 0 3;"
                + "case 0 9 1 9 2 9;case 3 9 1 9 2 9;case 0 9;");
        due("P27 the first day", x.soonest(0), 6);
        due("P27 the last one", x.soonest(1), 30);
        x.start(3, 2);
        due("P27 both on one day", x.soonest(0) * 100 + x.soonest(1), 606);
        x.start(2, 0);
        x.feast(1, 5, 5);
        due("P27 none", x.soonest(0), -1);
        due("P27 none", x.soonest(1), -1);
        Checks.noSuch("P27 what", () -> x.soonest(2));
        Checks.noSuch("P27 what", () -> x.soonest(-1));
    }

    private static void seeAndForget() {
        ApartBench x = Checks.told(APART);
        for (int i = 1; i <= 8; i++) {
            due("P28 see " + i, x.see(0, i % 3, i % 2 == 0), i);
        }
        due("P28 there are 8", x.see(0, 0, true), -1);
        due("P28 status", x.count(15), 1);
        Checks.noSuch("P28 case, ahead", () -> x.see(1, 0, true));
        Checks.noSuch("P28 judge, ahead", () -> x.see(0, 3, true));
        due("P28 status stays", x.count(15), 1);
        due("P28 it is no act", x.count(10), 0);
        for (int i = 7; i >= 0; i--) {
            due("P29 forget", x.forget(), i);
        }
        due("P29 there is none", x.forget(), -1);
        due("P29 status", x.count(15) * 10 + x.count(14), 10);
        x.see(0, 0, false);
        x.see(0, 1, true);
        x.forget();
        due("P29 the last one is forgotten", x.sent(0, 2), 1);
    }

    private static void sent() {
        ApartBench x = Checks.told("town;town;road 0 1 2;gossip 10;judge 5 0 0;judge 6 0 1;case 0 1 1 1;case 0 1;");
        due("P30 nothing is seen: all", x.sent(0, 0), 122);
        due("P30 the first", x.sent(0, 1), 0);
        due("P30 it is so without", x.sent(0, 2), 1);
        x.see(0, 1, true);
        // from town 1 on days 0 to 6, from town 0 on days 0 to 4
        due("P30 how many", x.sent(0, 0), 12);
        due("P30 not so without", x.sent(0, 2), 0);
        due("P30 word of another case does not void it", x.sent(1, 0), 0);
        due("P30 none", x.sent(1, 1), -1);
        x.see(0, 0, false);
        // not from town 0 up to day 5, not from town 1 up to day 3
        due("P30 how many of both", x.sent(0, 0), 3);
        due("P30 the first is day 4 in town 1", x.sent(0, 1), 401);
        x.see(1, 1, false);
        due("P30 not said at all: it wasn't", x.sent(0, 0), 3);
        x.forget();
        x.see(1, 1, true);
        due("P30 what was not said is never void", x.sent(1, 0), 0);
        x.forget();
        x.word(0, 1, 4);
        due("P30 it is so by a word that is sent", x.sent(0, 2), 1);
        due("P30 then many words fit", x.sent(0, 0), 55 + 57);
        due("P30 none of them is sent", x.count(6), 1);
        Checks.noSuch("P30 what", () -> x.sent(0, 3));
        Checks.noSuch("P30 case", () -> x.sent(2, 0));
    }

    private static void game() {
        ApartBench x = Checks.told("town;town;town;judge 0 0 0;deaf 0 0 1;deaf 0 0 2;case 0 9 1 9 2 9;case 0 9;");
        due("P31 the first makes the one deaf: 3 couples", x.game(0, 0), 3);
        due("P31 the first couple", x.game(0, 1), 0);
        due("P31 never guilty: all rest", x.game(1, 0), 9);
        due("P31 never guilty: the first", x.game(1, 1), 0);
        due("P31 three who hear: none rests", Checks.told(APART).game(0, 0), 0);
        due("P31 none", Checks.told(APART).game(0, 1), -1);
        due("P31 no judges", Checks.told("town;case 0 1;").game(0, 0), 0);
        due("P31 no judges", Checks.told("town;case 0 1;").game(0, 1), -1);
        ApartBench last = Checks.told("town;town;town;deaf 0 0 0;deaf 0 0 1;judge 0 0 2;case 0 9 1 9 2 9;");
        due("P31 ten by the first one's choice", last.game(0, 1), 20);
        ApartBench four = Checks.told("town;town;town;town;judge 0 0 0;judge 0 0 1;judge 0 0 2;judge 0 0 3;case 0 9 1 9 2 9 3 9;");
        due("P31 of four one is too few to be missed", four.game(0, 0), 16);
        due("P31 nobody is deaf for it", x.judge(0, 0), 0);
        Checks.noSuch("P31 what", () -> x.game(0, 2));
        Checks.noSuch("P31 case", () -> x.game(2, 0));
    }

    private static void season() {
        ApartBench x = Checks.told(APART);
        due("P32 floods of towns apart make none meet", x.season(1, 40, 0), 40);
        due("P32 the fewest", x.season(1, 40, 1), 1);
        due("P32 years in which all are", x.season(1, 40, 2), 40);
        due("P32 no years", x.season(1, 0, 0), 0);
        due("P32 no years", x.season(1, 0, 1), 0);
        due("P32 no years", x.season(1, 0, 2), 0);
        Checks.illegal("P32 n", () -> x.season(1, 41, 0));
        Checks.illegal("P32 n", () -> x.season(1, -1, 2));
        Checks.noSuch("P32 what goes ahead", () -> x.season(1, 41, 3));
        Checks.noSuch("P32 what", () -> x.season(1, 1, -1));
        due("P32 no towns: all of none", new ApartBench().season(5, 7, 2), 7);
        drawnByHand();
    }

    /** Two meet just in a year with a flood on day 12, a day wide or more, in their towns 0 and 1, not in 2. */
    private static void drawnByHand() {
        ApartBench x = new ApartBench();
        int[] of = {3, 30, 6};
        int dryInAll = 0;
        for (int seed = -100; seed < 100; seed++) {
            x = Checks.told("town;town;town;road 0 1 1;gossip 40;deaf 12 0 0;deaf 12 0 1;deaf 12 0 2;case 0 9 1 9 2 9;");
            int dry = 0;
            int s = seed * 7654321;
            for (int year = 0; year < 40; year++) {
                boolean wet = false;
                for (int i = 0; i < 2; i++) {
                    int[] drawn = new int[3];
                    for (int k = 0; k < 3; k++) {
                        s = (int) (1103515245L * s + 12345);
                        drawn[k] = (s >> 16 & 32767) % of[k];
                    }
                    wet |= drawn[0] != 2 && drawn[1] == 12 && drawn[2] >= 1;
                }
                dry += wet ? 0 : 1;
            }
            dryInAll += dry;
            due("P32 season of " + seed, x.season(seed * 7654321, 40, 0), dry);
            due("P32 fewest of " + seed, x.season(seed * 7654321, 40, 1), dry == 40 ? 1 : 0);
            due("P32 full years of " + seed, x.season(seed * 7654321, 40, 2), dry);
        }
        due("P32 some years are wet", dryInAll < 7950 && dryInAll > 4000 ? 1 : 0, 1);
        due("P32 no flood stays", x.count(8), 0);
        x.flood(0, 12, 1);
        due("P32 the floods that are there flood too", x.season(3, 40, 0), 0);
    }

    private static void imageAndRestore() {
        ApartBench x = Checks.told(ROW + "judge 7 0 0;case 0 9;");
        x.start(0, 8);
        x.inn(0, false);
        x.word(0, 1, 1);
        x.feast(2, 8, 8);
        x.flood(0, 8, 8);
        x.see(0, 0, true);
        x.start(0, 99);
        x.image();
        x.start(0, 20);
        x.inn(1, true);
        x.word(0, 2, 2);
        x.feast(0, 20, 20);
        x.flood(0, 9, 9);
        x.see(0, 0, false);
        x.start(0, 99);
        Checks.tell(x, "x");
        for (int i = 0; i < 9; i++) {
            x.see(0, 0, false);
        }
        due("P33 all has changed", x.said(0, 0, 0), -1);
        due("P33 what is seen is not so", x.sent(0, 2), 0);
        for (int again = 0; again < 2; again++) {
            due("P34 as it was", one(x.restore()), 1);
            int[] want = {4, 1, 1, 1, 0, 5, 1, 0, 0, 1, 0};
            for (int i = 0; i < want.length; i++) {
                due("P34 count(" + (5 + i) + ")", x.count(5 + i), want[i]);
            }
            due("P34 the day", x.judge(0, 1), 8);
            due("P34 he says it", x.said(0, 0, 1), 8);
            due("P34 what is seen is so", x.sent(0, 2), 1);
            due("P34 undo goes on from there", x.undo() * 10 + x.count(8), 40);
        }
        due("P34 the fault's place stays", x.fault(), 0);
        x.image();
        x.undo();
        due("P33 in place of another one", one(x.restore()), 1);
        due("P33 the later one", x.count(10), 4);
        Checks.tell(x, "town;");
        due("P34 a new land has none", one(x.restore()), 0);
        due("P34 nothing has changed", x.count(0), 1);
    }

    /** Wherever a number can be odd, the face throws what it promises or answers; nothing else gets out. */
    private static void oddNumbersThrowOnlyWhatIsPromised() {
        int[] odd = {-1, 0, 1, 2, 5, 9, 61, 100, MIN_VALUE, MAX_VALUE};
        for (String land : new String[] {"", APART, ROW, "town;judge 0 0 0;", "town;case 0 9;"}) {
            for (int a : odd) {
                for (int b : odd) {
                    ApartBench x = Checks.told(land);
                    for (int c : odd) {
                        three(x, a, b, c);
                    }
                    two(x, a, b);
                }
            }
        }
    }

    private static void onlyPromised(String what, java.util.function.LongSupplier call) {
        due(what, Checks.answer(call) == Checks.OTHER_EXCEPTION ? 1 : 0, 0);
    }

    private static void three(ApartBench x, int a, int b, int c) {
        String what = "(" + a + ", " + b + ", " + c + ")";
        onlyPromised("far" + what, () -> x.far(a, b, c));
        onlyPromised("stop" + what, () -> x.stop(a, b, c));
        onlyPromised("said" + what, () -> x.said(a, b, c));
        onlyPromised("word" + what, () -> x.word(a, b, c));
        onlyPromised("feast" + what, () -> x.feast(a, b, c));
        onlyPromised("flood" + what, () -> x.flood(a, b, c));
        onlyPromised("season" + what, () -> x.season(a, b, c));
    }

    private static void two(ApartBench x, int a, int b) {
        String what = "(" + a + ", " + b + ")";
        onlyPromised("judge" + what, () -> x.judge(a, b));
        onlyPromised("where" + what, () -> x.where(a, b));
        onlyPromised("proof" + what, () -> x.proof(a, b));
        onlyPromised("met" + what, () -> x.met(a, b));
        onlyPromised("guilty" + what, () -> x.guilty(a, b));
        onlyPromised("news" + what, () -> x.news(a, b));
        onlyPromised("start" + what, () -> x.start(a, b));
        onlyPromised("inn" + what, () -> one(x.inn(a, b > 0)));
        onlyPromised("when" + what, () -> x.when(a, b));
        onlyPromised("free" + what, () -> x.free(a, b));
        onlyPromised("see" + what, () -> x.see(a, b, true));
        onlyPromised("sent" + what, () -> x.sent(a, b));
        onlyPromised("game" + what, () -> x.game(a, b));
        onlyPromised("burn" + what, () -> x.burn(b));
        onlyPromised("round" + what, () -> x.round(a));
        onlyPromised("mercy" + what, () -> x.mercy(a));
        onlyPromised("deaf" + what, () -> x.deaf(a));
        onlyPromised("soonest" + what, () -> x.soonest(b));
        onlyPromised("count" + what, () -> x.count(a));
        onlyPromised("undo" + what, () -> x.undo());
    }
}
