import static java.lang.Integer.MAX_VALUE;
import static java.lang.Integer.MIN_VALUE;

/** "Terms", parts 1 (what a LAW gives) to 4: each sentence that names an edge, on it and a step beyond it. */
public final class TermsEdgeTest {
    /** 2 to the 31st, which wraps to the least int. */
    private static final String LEAST = "4096*4096*128";
    private static final String CHAIN = "town;".repeat(9) + "road 0 1 9;road 1 2 9;road 2 3 9;road 3 4 9;road 4 5 9;"
            + "road 5 6 9;road 6 7 9;road 7 8 9;";
    /** Three who never hear of one another, all on one day. */
    private static final String THREE = "town;town;town;deaf 5 0 0;deaf 5 0 1;deaf 5 0 2;case 0 9 1 9 2 9;";

    public static void main(String[] args) {
        intsThatWrap();
        cutDownToNothing();
        fromTheLeft();
        oneOrNought();
        lawGivesMoreThanNought();
        proofMoreThanFour();
        valuesOfOneWhoHears();
        deepLaws();
        inEachTownForOneDay();
        meetInAnInn();
        meetInAFlood();
        heardOnceAndFestivals();
        newsCutUp();
        newsFarthest();
        voidUpToTheDay();
        voidWhereHeWas();
        voidByAnotherOneOnAnEarlierDay();
        threeInThreeTowns();
        noTwoHaveMetByThen();
        theFirstThreeAsARow();
        atMost40ActsAreKept();
        actsOfSeveralArePushedOut();
        whichInn();
        whenOfLikeOnes();
        whichWayRound();
        toFree();
        mercy();
        alone();
        theSoonest();
        whoSent();
        games();
        seasons();
        drawsOfASeason();
        imageKeeps();
        Checks.finish("TermsEdgeTest");
    }

    private static void due(String what, long got, long want) {
        Checks.due(what, got, want);
    }

    private static int says(String law) {
        return Checks.told("town;town;judge 9 3 1;case 1 7;law " + law + ";").said(0, 0, 0);
    }

    private static void hold(String... laws) {
        for (String law : laws) {
            due("law " + law, says(law), 1);
        }
    }

    private static void fail(String... laws) {
        for (String law : laws) {
            due("law " + law, says(law), 0);
        }
    }

    // "ints that wrap"
    private static void intsThatWrap() {
        hold(LEAST + "<0", LEAST + "-1", "0<" + LEAST + "-1", LEAST + "-1+1<0", "0-" + LEAST + "=" + LEAST,
                LEAST + "+" + LEAST + "=0", "4096*4096*256=0", LEAST + "/(0-1)=" + LEAST, LEAST + "<" + LEAST + "-1",
                "(0-" + LEAST + "+1)/2<0", "9999*9999*21", "9999*9999*22<0", "9999*9999*9999*9999=16*8192*8192+1915*8192+2497");
        fail(LEAST, LEAST + "-1<0", "9999*9999*22", LEAST + "-1+1", LEAST + "-1<" + LEAST);
    }

    // "/ cut down to 0, by 0 gives 0"
    private static void cutDownToNothing() {
        hold("7/2=3", "(0-7)/2=0-3", "7/(0-2)=0-3", "(0-7)/(0-2)=3", "1/2=0", "(0-1)/2=0", "(0-1)/9999=0", "9999/1=9999",
                "0/5=0", "5/5=1", "4/5=0");
        hold("5/0=0", "0/0=0", "(0-5)/0=0", "1+5/0", "5/(3-3)=0", LEAST + "/0=0", "5/(1/2)=0", "1/0/0=0");
        fail("5/0", "(0-5)/0", "4/5", "(1-9)/9");
    }

    // "From the left"
    private static void fromTheLeft() {
        hold("7-5-1=1", "20/3/2=3", "2*3/4=1", "2/4*3=0", "8-3+2=7", "2+3*4=14", "2*3+4=10", "1 or 1 and 0", "1 or 0 and 0",
                "0 and 0 or 1", "not 1 or 1", "not 0 and 1", "not 2<1", "not 1=0", "1+1=2 and 2=1+1");
        fail("not 1 and 1", "not 1<2", "0 and 1 or 0", "0 and (1 or 1)", "(1 or 1) and 0");
    }

    // "tests, not, and, or are 1 or 0 (what isn't 0 holds)"
    private static void oneOrNought() {
        hold("2<3", "(2<3)=1", "(3<3)=0", "(4<3)=0", "(3=3)=1", "(3=4)=0", "0-1<0", "(not 0)=1", "(not 1)=0", "(not 5)=0",
                "(not (0-1))=0", "(not not 7)=1", "(5 or 0)=1", "(0 or 5)=1", "(0 or 0)=0", "(5 and 3)=1", "(4 and 3)=1",
                "(5 and 0)=0", "(0 and 5)=0", "0-1 or 0", "(0-1) and (0-1)", "0 or 0-1", LEAST + " or 0", "not not " + LEAST);
        fail("3<3", "3<2", "3=2", "not 1", "not (0-1)", "not " + LEAST, "0 or 0", "1 and 0", "0 and 1", "0 and 0");
    }

    // "he SAYS guilty, if the LAW gives more than 0 ..; a wise one just if it doesn't"
    private static void lawGivesMoreThanNought() {
        hold("1", "9999", LEAST + "-1");
        fail("0", "0-1", LEAST);
        String[] laws = {"1", "0", "0-1"};
        int[] judge = {1, 0, 0};
        for (int i = 0; i < 3; i++) {
            String law = "case 0 0;law " + laws[i] + ";";
            due("a judge by " + law, Checks.told("town;judge 0 0 0;" + law).said(0, 0, 0), judge[i]);
            due("a deaf one by " + law, Checks.told("town;deaf 0 0 0;" + law).said(0, 0, 0), judge[i]);
            due("a wise one by " + law, Checks.told("town;wise 0 0 0;" + law).said(0, 0, 0), 1 - judge[i]);
        }
    }

    // "(without one, if PROOF is more than 4)"
    private static void proofMoreThanFour() {
        for (int proof = 0; proof <= 9; proof++) {
            String text = " 0 9 0;case 0 " + proof + ";";
            due("a judge, " + proof, Checks.told("town;judge" + text).said(0, 0, 0), proof > 4 ? 1 : 0);
            due("a wise one, " + proof, Checks.told("town;wise" + text).said(0, 0, 0), proof > 4 ? 0 : 1);
            due("a law goes ahead of it, " + proof, Checks.told("town;judge" + text + "law 0;").said(0, 0, 0), 0);
        }
    }

    // "VALUES of one who hears a CASE": the least and the most of each
    private static void valuesOfOneWhoHears() {
        due("proof 0", Checks.told("town;judge 3 4 0;case 0 0;law proof=0;").said(0, 0, 0), 1);
        due("proof 9", Checks.told("town;judge 3 4 0;case 0 9;law proof=9;").said(0, 0, 0), 1);
        due("harsh 0", Checks.told("town;judge 3 0 0;case 0 5;law harsh=0;").said(0, 0, 0), 1);
        due("harsh 9", Checks.told("town;judge 3 9 0;case 0 5;law harsh=9;").said(0, 0, 0), 1);
        due("day 0", Checks.told("town;judge 0 4 0;case 0 5;law day=0;").said(0, 0, 0), 1);
        due("day 114", Checks.told(CHAIN + "judge 60 4 0 1 2 3 4 5 6;case 6 5;law day=114;").said(0, 0, 0), 1);
        due("town 0", Checks.told("town;town;judge 3 4 0;case 0 5;law town=0;").said(0, 0, 0), 1);
        due("town 8", Checks.told(CHAIN + "judge 3 4 8;case 8 5;law town=8;").said(0, 0, 0), 1);
        due("of that town alone", Checks.told("town;town;road 0 1 1;judge 3 4 0 1;case 1 6 0 7;law proof=7;").said(0, 0, 0), 1);
        // 'said' .. "on an earlier DAY, whether one knows or not"
        String five = "town;town;judge 0 0 0;deaf 1 0 0;wise 1 0 1;judge 2 0 1;judge 9 0 0;case 0 5 1 5;law said=";
        int[] earlier = {0, 1, 1, 3, 4};
        for (int judge = 0; judge < 5; judge++) {
            boolean wise = judge == 2;
            for (int many = 0; many <= 5; many++) {
                due("said=" + many + " of " + judge, Checks.told(five + many + ";").said(0, judge, 0),
                        (earlier[judge] == many) != wise ? 1 : 0);
            }
        }
        String late = "town;town;road 0 1 9;judge 9 0 0;judge 0 0 1 0;judge 5 0 0;case 0 5;law said=";
        int[] byDays = {1, 1, 0};
        for (int judge = 0; judge < 3; judge++) {
            due("by days, not by judges, " + judge, Checks.told(late + byDays[judge] + ";").said(0, judge, 0), 1);
        }
        due("not of another case",
                Checks.told("town;town;judge 0 0 0;judge 5 0 1;case 0 5;case 1 5;law said=0;").said(1, 1, 0), 1);
    }

    /** As many numbers wait as can: five in each EXPR, six EXPRS one within the other. */
    private static void deepLaws() {
        String open = "0 or 1 and 0<0+1*(".repeat(5);
        hold(open + "0 or 1 and 0<0+1*1" + ")".repeat(5));
        fail(open + "0 or 1 and 0<0+1*0" + ")".repeat(5));
        String nots = "not not not not not not(".repeat(5);
        hold(nots + "not not not not not not 1" + ")".repeat(5), nots + "not not not not not 0" + ")".repeat(5));
        fail(nots + "not not not not not 1" + ")".repeat(5), nots + "0" + ")".repeat(5));
    }

    // "A JUDGE is in each TOWN of his ROUTE for one DAY .. (if it takes 1, on the next DAY)"
    private static void inEachTownForOneDay() {
        ApartBench one = Checks.told("town;town;road 0 1 1;judge 0 0 0 1 0;");
        int[] where = {-1, 0, 1, 0, -1};
        for (int day = -1; day <= 3; day++) {
            due("a road of 1 day, on day " + day, one.where(0, day), where[day + 1]);
        }
        ApartBench nine = Checks.told("town;town;road 0 1 9;judge 60 0 1 0;");
        for (int day = 58; day <= 71; day++) {
            due("a road of 9 days, on day " + day, nine.where(0, day), day == 60 ? 1 : day == 69 ? 0 : -1);
        }
        ApartBench detour = Checks.told("town;town;town;road 0 1 9;road 0 2 1;road 2 1 1;judge 0 0 0 1;");
        due("he goes by the road, not by the shortest way", detour.judge(0, 4), 9);
        due("the shortest way", detour.far(0, 1, 0), 2);
        ApartBench by = Checks.told("town;".repeat(9) + "road 1 0 1;road 0 2 1;road 3 8 2;road 8 4 2;road 3 4 5;road 1 2 3;");
        due("by the first town", by.far(1, 2, 0) * 10 + by.far(2, 1, 0), 22);
        due("by the last town", by.far(3, 4, 0) * 10 + by.far(4, 3, 0), 44);
        due("as far by two ways", Checks.told("town;town;town;road 0 1 1;road 1 2 1;road 0 2 2;").far(0, 2, 0), 2);
        ApartBench stops = Checks.told("town;town;town;road 0 1 1;road 1 2 1;"
                + "judge 60 0 0 1 0 1 0 1 2;".repeat(5) + "case 2 9;");
        for (int judge = 0; judge < 5; judge++) {
            due("in the seventh town, one of five", stops.said(0, judge, 1), 66);
        }
    }

    // "Two MEET on a DAY, if both are in one TOWN that has an INN"
    private static void meetInAnInn() {
        due("in an inn", Checks.told("town inn;judge 5 0 0;judge 5 0 0;").met(0, 1), 5);
        due("without one", Checks.told("town;judge 5 0 0;judge 5 0 0;").met(0, 1), -1);
        due("a day later", Checks.told("town inn;judge 5 0 0;judge 6 0 0;").met(0, 1), -1);
        due("in two inns", Checks.told("town inn;town inn;judge 5 0 0;judge 5 0 1;").met(0, 1), -1);
        due("on day 0", Checks.told("town inn;judge 0 0 0;judge 0 0 0;").met(1, 0), 0);
        due("on the last day of all", Checks.told("town;".repeat(6) + "town inn;town;town;"
                + CHAIN.substring(45) + "judge 60 0 0 1 2 3 4 5 6;judge 60 0 0 1 2 3 4 5 6;").met(0, 1), 114);
        ApartBench x = Checks.told("town inn;judge 5 0 0;judge 5 0 0;");
        x.feast(0, 5, 5);
        due("at a festival too", x.met(0, 1), 5);
    }

    // "all who are then in TOWNS from which it is no more DAYS of ROADS to that TOWN than so many"
    private static void meetInAFlood() {
        String land = "town;town;town;town;town;road 0 1 9;road 1 2 9;road 2 3 2;"
                + "judge 7 0 0;judge 7 0 3;judge 7 0 0;judge 7 0 4;";
        ApartBench x = Checks.told(land);
        x.flood(0, 7, 19);
        due("20 days away, 19 wide", x.met(0, 1), -1);
        due("two in that town", x.met(0, 2), 7);
        x.flood(0, 7, 20);
        due("20 days away, 20 wide", x.met(0, 1), 7);
        due("no way, however wide", x.met(0, 3), -1);
        ApartBench far = Checks.told(land.replace("road 2 3 2", "road 2 3 3"));
        far.flood(0, 7, 20);
        due("21 days away, 20 wide", far.met(0, 1), -1);
        far.flood(1, 7, 12);
        due("both 12 days away at most", far.met(0, 1), 7);
        ApartBench day = Checks.told(land);
        day.flood(0, 6, 20);
        day.flood(0, 8, 20);
        due("a day ahead, a day behind", day.met(0, 1), -1);
        ApartBench naught = Checks.told("town;town;road 0 1 1;judge 0 0 0;judge 0 0 0;judge 0 0 1;");
        naught.flood(0, 0, 0);
        due("nought wide, in that town", naught.met(0, 1), 0);
        due("nought wide, a day away", naught.met(0, 2), -1);
        ApartBench first = Checks.told("town inn;town;road 0 1 1;judge 4 0 1 0;judge 4 0 1 0;");
        due("in the inn", first.met(0, 1), 5);
        first.flood(0, 5, 9);
        due("on that day too", first.met(0, 1), 5);
        first.flood(1, 4, 0);
        due("in a flood ahead of it", first.met(0, 1), 4);
        ApartBench both = Checks.told("town;town inn;road 0 1 1;judge 0 0 0 1;judge 0 0 0 1;");
        both.flood(0, 0, 0);
        due("in a flood on day 0, in an inn on day 1", both.met(0, 1), 0);
        both.inn(1, false);
        due("in a flood on day 0 alone", both.met(0, 1), 0);
    }

    // "if he hasn't heard it yet, and there is no FESTIVAL"
    private static void heardOnceAndFestivals() {
        String land = "town;town;road 0 1 1;judge 5 0 0 1 0;case 0 9 1 3;";
        ApartBench x = Checks.told(land);
        due("in the first town that has it", x.said(0, 0, 1) * 10 + x.said(0, 0, 0), 51);
        x.feast(0, 4, 4);
        x.feast(0, 6, 6);
        x.feast(1, 5, 5);
        due("a festival a day ahead, a day behind, elsewhere", x.said(0, 0, 1), 5);
        x.feast(0, 5, 5);
        due("on the day itself: in the next town", x.said(0, 0, 1) * 100 + x.said(0, 0, 2) * 10 + x.said(0, 0, 0), 610);
        ApartBench y = Checks.told(land);
        y.feast(0, 0, 5);
        due("its last day is one of it", y.said(0, 0, 1), 6);
        y.feast(1, 6, 99);
        due("its first day is one of it", y.said(0, 0, 1), 7);
        y.feast(0, 6, 8);
        due("between them too", y.said(0, 0, 1), -1);
        ApartBench late = Checks.told(CHAIN + "judge 60 0 0 1 2 3 4 5 6;case 5 9;");
        late.feast(5, 0, 99);
        due("none lasts up to day 105", late.said(0, 0, 1), 105);
    }

    // "the DAYS of the shortest way by GOSSIP by 10, cut up (none, if there is no way)"
    private static void newsCutUp() {
        String land = "town;town;town;town;town;road 0 1 9;road 1 2 1;road 2 3 1;gossip ";
        int[][] want = {{1, 1, 1, 2}, {9, 9, 9, 10}, {10, 9, 10, 11}, {11, 10, 11, 13}, {40, 36, 40, 44}};
        for (int[] row : want) {
            ApartBench x = Checks.told(land + row[0] + ";");
            for (int town = 1; town <= 3; town++) {
                due("gossip " + row[0] + " to " + town, x.far(0, town, 1), row[town]);
                due("gossip " + row[0] + " from " + town, x.far(town, 0, 1), row[town]);
            }
            due("to itself it takes none", x.far(3, 3, 1), 0);
            due("no way", x.far(0, 4, 1) + x.far(4, 0, 1) * 10, -11);
        }
        due("the way is cut up as one, not road by road",
                Checks.told("town;town;town;road 0 1 1;road 1 2 1;gossip 5;").far(0, 2, 1), 1);
    }

    private static void newsFarthest() {
        ApartBench x = Checks.told(CHAIN + "gossip 40;judge 60 0 8 7 6 5 4 3 2;case 2 9;");
        due("72 days of roads", x.far(0, 8, 0), 72);
        due("288 days of news", x.far(8, 0, 1), 288);
        due("news where it was said, on that day", x.news(0, 2), 114);
        due("news at one end", x.news(0, 0), 186);
        due("news at the other end", x.news(0, 8), 330);
        x.word(0, 8, 99);
        due("word goes as fast", x.news(0, 7), 135);
        due("what was said comes first here", x.news(0, 4), 186);
        due("at the end by word", x.news(0, 8), 99);
        due("it comes too late for him", x.said(0, 0, 3), 0);
        ApartBench two = Checks.told("town;town;town;road 0 1 1;judge 0 0 0;judge 4 0 2;judge 2 0 1;"
                + "case 0 9 2 9;case 2 9 0 9;case 1 9;");
        due("one has a way, the other none", two.news(0, 1) * 10 + two.news(1, 1), 11);
        due("one has none, the other neither", two.news(2, 2), -1);
        due("here on day 0", two.news(0, 0), 0);
        two.word(0, 2, 0);
        two.word(2, 2, 0);
        due("word on day 0 has no way", two.news(0, 1), 1);
        due("word on day 0", two.news(0, 2) * 10 + two.news(2, 2), 0);
        ApartBench fast = Checks.told(CHAIN + "gossip 1;");
        due("7.2 days are 8", fast.far(0, 8, 1), 8);
    }

    // "if on some DAY up to that on which he SAYS it .. NEWS of that CASE was by then (or came on that DAY)"
    private static void voidUpToTheDay() {
        String land = "town;town;road 0 1 3;judge 5 0 0;case 0 9 1 9;judge ";
        int[] isVoid = {0, 0, 0, 0, 0, 0, 0, 0, 1, 1};
        int[] firstIsVoid = {1, 1, 1, 0, 0, 0, 0, 0, 0, 0};
        for (int day = 0; day <= 9; day++) {
            ApartBench x = Checks.told(land + day + " 0 1;");
            due("news from day 5 takes 3, he speaks on " + day, x.said(0, 1, 3), isVoid[day]);
            due("he spoke on " + day + ", the other one on 5", x.said(0, 0, 3), firstIsVoid[day]);
            ApartBench deaf = Checks.told(land.replace("9;judge ", "9;deaf ") + day + " 0 1;");
            due("unless he is deaf, on " + day, deaf.said(0, 1, 3), 0);
        }
        ApartBench words = Checks.told(land + "7 0 1;");
        words.word(0, 0, 5);
        due("word that comes a day too late", words.said(0, 1, 3), 0);
        words.word(0, 0, 4);
        due("word that comes on that day", words.said(0, 1, 3), 1);
        words.undo();
        words.word(0, 1, 8);
        due("word from there, a day too late", words.said(0, 1, 3), 0);
        words.word(0, 1, 7);
        due("word from there on that day", words.said(0, 1, 3), 1);
    }

    // "he was in a TOWN in which NEWS of that CASE was by then"
    private static void voidWhereHeWas() {
        String land = "town;town;road 0 1 1;gossip 40;judge 10 0 0 1 0;case 1 9;case 0 9;";
        ApartBench x = Checks.told(land);
        x.word(0, 0, 11);
        due("a day behind him; it comes to the next town too late", x.said(0, 0, 3), 0);
        x.word(0, 0, 10);
        due("on the day on which he is there", x.said(0, 0, 3), 1);
        due("of that case alone", x.said(1, 0, 3), 0);
        ApartBench later = Checks.told(land.replace("10 0 0 1 0", "10 0 1 0"));
        later.word(0, 0, 7);
        due("where he comes when he has said it", later.said(0, 0, 3), 0);
        later.word(0, 0, 6);
        due("where he says it", later.said(0, 0, 3), 1);
        ApartBench feast = Checks.told("town;town;road 0 1 1;gossip 40;judge 5 0 0;judge 6 0 0 1;case 0 9 1 9;");
        feast.feast(0, 6, 6);
        due("he hears it a town later", feast.said(0, 1, 1), 7);
        due("news meets him at a festival too", feast.said(0, 1, 3), 1);
    }

    // "by what another one SAID on an earlier DAY than that on which he SAYS it, or by WORD"
    private static void voidByAnotherOneOnAnEarlierDay() {
        ApartBench same = Checks.told("town;judge 5 0 0;judge 5 0 0;case 0 9;");
        due("both on one day", same.said(0, 0, 3) + same.said(0, 1, 3), 0);
        ApartBench next = Checks.told("town;judge 5 0 0;judge 6 0 0;case 0 9;");
        due("a day later", next.said(0, 0, 3) * 10 + next.said(0, 1, 3), 1);
        ApartBench not = Checks.told("town;judge 5 0 0;judge 6 0 0;case 0 0;");
        due("guilty or not", not.said(0, 1, 3), 1);
        ApartBench void3 = Checks.told("town;town;judge 5 0 0;judge 6 0 0;deaf 7 0 1;judge 8 0 1;case 0 9 1 9;");
        due("void or not, deaf or not", void3.said(0, 1, 3) * 100 + void3.said(0, 2, 3) * 10 + void3.said(0, 3, 3), 101);
        ApartBench alone = Checks.told("town;town;road 0 1 1;gossip 1;judge 5 0 0 1 0 1;case 0 9;case 1 9;");
        due("by himself never", alone.said(0, 0, 3) + alone.said(1, 0, 3), 0);
        ApartBench other = Checks.told("town;town;road 0 1 1;judge 5 0 0;judge 9 0 0;case 0 9;case 1 9;");
        due("of another case it is no news", other.news(1, 0), -1);
        due("one who says nothing is not void", other.said(1, 1, 3), 0);
    }

    // "three who have SAID guilty of it by then, not VOID, in three TOWNS"
    private static void threeInThreeTowns() {
        ApartBench x = Checks.told(THREE);
        due("three in three", x.guilty(0, 0) * 10 + x.guilty(0, 1), 57);
        due("two in two", Checks.told(THREE.replace("deaf 5 0 2;", "")).guilty(0, 0), -1);
        due("three in two", Checks.told(THREE.replace("5 0 2;", "5 0 1;")).guilty(0, 0), -1);
        due("three in one", Checks.told(THREE.replace("5 0 2;", "5 0 0;").replace("5 0 1;", "5 0 0;")).guilty(0, 0), -1);
        due("one says no", Checks.told(THREE.replace("2 9;", "2 4;")).guilty(0, 0), -1);
        due("one says it barely", Checks.told(THREE.replace("2 9;", "2 5;")).guilty(0, 0), 5);
        due("on the day of the last one", Checks.told(THREE.replace("deaf 5 0 1", "deaf 60 0 1")).guilty(0, 0), 60);
        due("on day 0", Checks.told(THREE.replace("deaf 5", "deaf 0")).guilty(0, 0), 0);
        due("one void", Checks.told(THREE.replace("deaf 5 0 1", "deaf 0 0 1").replace("deaf 5 0 2",
                "judge 6 0 2") + "road 1 2 1;").guilty(0, 0), -1);
        due("by whom, without", Checks.told(THREE.replace("2 9;", "2 4;")).guilty(0, 1), 0);
        ApartBench five = Checks.told("town;".repeat(5) + "deaf 1 0 0;deaf 1 0 0;deaf 5 0 4;deaf 5 0 4;deaf 9 0 2;"
                + "case 0 9 4 9 2 9;");
        due("five in three", five.guilty(0, 0) * 100 + five.guilty(0, 1), 900 + 1 + 4 + 16);
    }

    // "of whom no two have MET by then"
    private static void noTwoHaveMetByThen() {
        String land = "town;town;town;town inn;road 0 3 1;road 1 3 1;deaf 4 0 0 3;deaf 4 0 1 3;case 0 9 1 9 2 9;deaf ";
        for (int day = 0; day <= 8; day++) {
            ApartBench x = Checks.told(land + day + " 0 2;");
            due("they meet on day 5, the third speaks on " + day, x.guilty(0, 0), day <= 4 ? 4 : -1);
        }
        ApartBench x = Checks.told(land + "5 0 2;");
        x.inn(3, false);
        due("without the inn", x.guilty(0, 0), 5);
        x.flood(2, 5, 20);
        due("a flood to which there is no way", x.guilty(0, 0), 5);
        x.flood(0, 5, 0);
        due("a flood where they are not", x.guilty(0, 0), 5);
        x.flood(3, 5, 0);
        due("a flood where they are", x.guilty(0, 0), -1);
        for (int[] pair : new int[][] {{0, 1}, {0, 2}, {1, 2}}) {
            ApartBench y = Checks.told(THREE + "road " + pair[0] + " " + pair[1] + " 1;");
            due("guilty", y.guilty(0, 0), 5);
            y.flood(pair[0], 6, 1);
            due("a flood a day later", y.guilty(0, 0), 5);
            y.flood(pair[0], 5, 1);
            due("any two of them, on that day", y.guilty(0, 0), -1);
        }
    }

    // "by whom: the first such three as a row (the least JUDGE first)"
    private static void theFirstThreeAsARow() {
        String land = "town;town;town;town;deaf 5 0 0;deaf 5 0 1;deaf 5 0 2;deaf 5 0 3;case 0 9 1 9 2 9 3 9;";
        due("0 1 2", Checks.told(land).guilty(0, 1), 7);
        int[][] met = {{1, 2, 11}, {0, 1, 13}, {0, 2, 11}, {0, 3, 7}, {2, 3, 7}, {1, 3, 7}};
        for (int[] row : met) {
            ApartBench x = Checks.told(land + "road " + row[0] + " " + row[1] + " 1;");
            x.flood(row[0], 5, 1);
            due("those who met: " + row[0] + ", " + row[1], x.guilty(0, 1), row[2]);
        }
        ApartBench later = Checks.told(land);
        later.start(0, 6);
        due("the first day goes ahead", later.guilty(0, 1) * 10 + later.guilty(0, 0), 145);
        ApartBench last = Checks.told("town;".repeat(5) + "judge 0 0 0;judge 0 0 1;deaf 5 0 2;deaf 5 0 3;deaf 5 0 4;"
                + "case 2 9 3 9 4 9;");
        due("the last three", last.guilty(0, 1), 28);
    }

    // "ACTS (at most 40 are kept, the latest ones) .. They are UNDONE, the last one first."
    private static void atMost40ActsAreKept() {
        for (int acts = 39; acts <= 42; acts++) {
            ApartBench x = Checks.told("town inn;judge 60 0 0;");
            for (int i = 0; i < acts; i++) {
                x.start(0, i);
            }
            int kept = Math.min(acts, 40);
            due(acts + " acts", x.count(10), kept);
            for (int i = 1; i <= kept; i++) {
                due("undone", x.undo(), kept - i);
                due("the day as it was", x.judge(0, 1), i == acts ? 60 : acts - 1 - i);
            }
            due("no more", x.undo(), -1);
            due("what is kept no more stays", x.judge(0, 1), acts <= 40 ? 60 : acts - 41);
        }
        ApartBench all = Checks.told("town inn;judge 60 0 0;case 0 9;");
        all.word(0, 0, 1);
        all.feast(0, 1, 1);
        all.flood(0, 1, 1);
        all.inn(0, false);
        for (int i = 0; i < 40; i++) {
            all.start(0, i);
        }
        for (int i = 0; i < 40; i++) {
            all.undo();
        }
        due("pushed out, but not undone", all.count(6) * 100 + all.count(7) * 10 + all.count(8), 111);
        due("the inn is burnt still", all.count(5) + all.count(10), 0);
        due("room for three words more", all.word(0, 0, 1) + all.word(0, 0, 1) + all.word(0, 0, 1), 9);
        due("and no more", all.word(0, 0, 1), -1);
    }

    /** Acts of several, so that those which are pushed out take nothing of another one's along. */
    private static void actsOfSeveralArePushedOut() {
        ApartBench x = Checks.told("town inn;town;judge 60 0 0;judge 50 0 0;");
        int[] before = new int[66];
        for (int act = 0; act < 66; act++) {
            before[act] = daysAndInns(x);
            int round = act / 3;
            if (act % 3 == 1) {
                x.inn(round % 2, round % 4 == 1 || round % 4 == 2);
            } else {
                x.start(act % 3 / 2, round);
            }
        }
        due("66 acts", x.count(10), 40);
        for (int act = 65; act >= 26; act--) {
            due("undone, act " + act, x.undo(), act - 26);
            due("as it was ahead of act " + act, daysAndInns(x), before[act]);
        }
        due("no more", x.undo(), -1);
    }

    private static int daysAndInns(ApartBench x) {
        return x.judge(0, 1) * 10000 + x.judge(1, 1) * 100 + x.count(5);
    }

    // "the TOWN with an INN without which most CASES are GUILTY (of like ones the least)"
    private static void whichInn() {
        due("no inn", Checks.told("town;town;").burn(0), -1);
        due("how many then", Checks.told("town;town;").burn(1), -1);
        due("the last town alone", Checks.told("town;".repeat(8) + "town inn;").burn(0), 8);
        due("none is guilty: how many", Checks.told("town;".repeat(8) + "town inn;").burn(1), 0);
        due("of like ones the least", Checks.told("town;town inn;town inn;town inn;").burn(0), 1);
        due("the first town alone", Checks.told("town inn;town;").burn(0) * 10 + Checks.told("town inn;town;").burn(1), 0);
        due("the first town of nine", Checks.told("town inn;".repeat(9)).burn(0), 0);
        // two meet in 3, and in 4 a day later: either inn is enough to part them, so that burning one frees nobody
        String land = "town;town;town;town inn;town inn;road 0 3 1;road 1 3 1;road 3 4 1;deaf 1 0 0 3 4;deaf 1 0 1 3 4;deaf ";
        ApartBench both = Checks.told(land + "3 0 2;case 0 9 1 9 2 9;");
        due("both inns", both.burn(0) * 10 + both.burn(1), 30);
        ApartBench one = Checks.told(land + "2 0 2;case 0 9 1 9 2 9;");
        due("ahead of the second one", one.burn(0) * 10 + one.burn(1), 31);
        both.inn(3, false);
        due("only the second one is left", both.burn(0) * 10 + both.burn(1), 41);
    }

    // "the DAY (0 to 60) by which most are, of like ones the first"
    private static void whenOfLikeOnes() {
        due("all alike", Checks.told("town;judge 33 0 0;").when(0, 0), 0);
        due("how many", Checks.told("town;judge 33 0 0;").when(0, 1), 0);
        String land = "town;town;town;road 0 1 1;judge 30 0 0;judge DAY 0 1;deaf 0 0 2;case 0 9 1 9 2 9;";
        for (int day : new int[] {0, 1, 59, 60}) {
            ApartBench x = Checks.told(land.replace("DAY", "" + day));
            due("just on his day " + day, x.when(0, 0) * 10 + x.when(0, 1), day * 10 + 1);
            due("he stays where he is", x.judge(0, 1), 30);
        }
        String past = "town;town;town;town;road 1 3 1;judge 30 0 0;judge 60 0 3 1;deaf 0 0 2;case 0 9 1 9 2 9;road 0 1 1;";
        due("61 is too late a day", Checks.told(past).when(0, 1), 0);
        ApartBench all = Checks.told(THREE);
        due("on every day", all.when(2, 0) * 10 + all.when(2, 1), 1);
        // from 0 he is void in 1 up to day 57, from 1 on he would not be: his own way round counts
        String way = "town;town;town;town;road 0 1 3;judge 30 0 0 1;deaf 0 0 2;deaf 0 0 3;case 1 9 2 9 3 9;";
        ApartBench round = Checks.told(way);
        round.word(0, 1, 2);
        due("by his own way he is there on day 3 at best", round.when(0, 1), 0);
        round.undo();
        round.word(0, 1, 4);
        due("on day 0 he is there on day 3", round.when(0, 0) * 10 + round.when(0, 1), 1);
    }

    // "how many more (below 0: fewer)"
    private static void whichWayRound() {
        String land = "town;town;town;road 0 1 1;deaf 0 0 0 1;deaf 0 0 1;deaf 0 0 2;" + "case 0 9 1 9 2 9;".repeat(6);
        due("six fewer", Checks.told(land).round(0), -6);
        due("six more", Checks.told(land.replace("0 0 0 1;", "0 0 1 0;")).round(0), 6);
        due("one town", Checks.told(land).round(1), 0);
        due("no cases", Checks.told("town;judge 0 0 0;").round(0), 0);
        // roads of 9 and 1: from the last town on the same day he is in the middle on day 1, not 9
        String days = "town;town;town;town;town;road 0 1 9;road 1 2 1;judge 0 0 0 1 2;deaf 0 0 3;deaf 5 0 4;case 1 9 3 9 4 9;";
        ApartBench x = Checks.told(days);
        x.word(0, 1, 5);
        due("void on day 9", x.count(9), 0);
        due("not void on day 1", x.round(0), 1);
        due("his route stays", x.stop(0, 1, 1), 9);
    }

    // "one WORD more (a fifth too) .. (0 to 60) .. the least DAY, of like ones the least TOWN; none; nothing"
    private static void toFree() {
        String land = "town;town;town;town;road 0 1 9;gossip 40;deaf 0 0 2;deaf 0 0 3;judge DAY 0 1;case 1 9 2 9 3 9;case 0 9;";
        int[] days = {0, 35, 36, 60};
        int[] towns = {1, 1, 0, 0};
        for (int i = 0; i < 4; i++) {
            ApartBench x = Checks.told(land.replace("DAY", "" + days[i]));
            due("he speaks on " + days[i] + ": the day", x.free(0, 0), 0);
            due("he speaks on " + days[i] + ": the town", x.free(0, 1), towns[i]);
            due("not guilty as it is", x.free(1, 0) * 10 + x.free(1, 1), -22);
            for (int many = 1; many <= 4; many++) {
                due("word", x.word(1, 0, 99), many);
                due("a fifth too, behind " + many, x.free(0, 1), towns[i]);
            }
            due("none is sent", x.count(6) * 10 + x.count(10), 44);
        }
        ApartBench none = Checks.told(land.replace("judge DAY", "deaf 5"));
        due("none", none.free(0, 0) * 10 + none.free(0, 1), -11);
        ApartBench nine = Checks.told("town;".repeat(9) + "deaf 0 0 6;deaf 0 0 7;deaf 60 0 8;case 6 9 7 9 8 9;");
        due("none from all nine towns", nine.free(0, 0) * 10 + nine.free(0, 1), -11);
        ApartBench last = Checks.told("town;".repeat(9) + "deaf 0 0 6;deaf 0 0 7;judge 60 0 8;case 6 9 7 9 8 9;");
        due("from the last town alone", last.free(0, 0) * 100 + last.free(0, 1), 8);
        ApartBench freed = Checks.told(land.replace("DAY", "5"));
        freed.word(0, 1, 5);
        due("freed already", freed.free(0, 0), -2);
    }

    // "the fewest MULES .. one JUDGE (who isn't deaf) .. JUDGES, as bits .. (of as few the least); none"
    private static void mercy() {
        due("not guilty", Checks.told("town;case 0 9;").mercy(0), 0);
        due("all deaf", Checks.told(THREE).mercy(0), -1);
        due("one who hears", Checks.told(THREE.replace("deaf 5 0 2", "judge 5 0 2")).mercy(0), 4);
        due("two who hear", Checks.told(THREE.replace("deaf 5 0 2", "wise 5 0 2").replace("2 9;", "2 4;")
                .replace("deaf 5 0 1", "judge 5 0 1")).mercy(0), 2);
        String five = "town;".repeat(5) + "judge 5 0 0;judge 5 0 1;judge 5 0 2;judge 5 0 3;judge 5 0 4;case 0 9 1 9 2 9 3 9 4 9;";
        due("of five three", Checks.told(five).mercy(0), 7);
        due("the last three", Checks.told(five.replaceFirst("judge", "deaf").replaceFirst("judge", "deaf")).mercy(0), 28);
        due("three who are deaf are enough", Checks.told(five.replaceFirst("judge", "deaf").replaceFirst("judge", "deaf")
                .replaceFirst("judge", "deaf")).mercy(0), -1);
        // 0 and 3 met, 1 and 2 met, 4 is deaf: mules to 0 and 3, or to 1 and 2; no one mule, no other two
        ApartBench pairs = Checks.told(five.replace("judge 5 0 4", "deaf 5 0 4") + "road 0 3 1;road 1 2 1;");
        pairs.flood(0, 5, 1);
        pairs.flood(1, 5, 1);
        due("guilty by 0, 1, 4", pairs.guilty(0, 1), 19);
        due("of as few the least bits", pairs.mercy(0), 6);
        ApartBench sent = Checks.told(THREE.replace("deaf 5 0 2", "judge 5 0 2"));
        sent.word(0, 2, 5);
        due("freed by word already", sent.mercy(0), 0);
    }

    // "were a JUDGE deaf (a wise one is wise still), or not deaf, if he is"
    private static void alone() {
        due("no cases", Checks.told("town;judge 0 0 0;").deaf(0), 0);
        String land = "town;town;town;road 0 1 1;deaf 0 0 0;KIND 1 0 1;deaf 5 0 2;case 0 9 1 PROOF 2 9;case 0 9 1 PROOF 2 9;";
        String[] kinds = {"judge", "deaf", "wise", "wise"};
        int[] proofs = {9, 9, 4, 5};
        int[] asItIs = {0, 2, 0, 0};
        int[] turned = {2, 0, 2, 0};
        for (int i = 0; i < 4; i++) {
            ApartBench x = Checks.told(land.replace("KIND", kinds[i]).replace("PROOF", "" + proofs[i]));
            due(kinds[i] + " as it is", x.count(9), asItIs[i]);
            due(kinds[i] + " were it the other way", x.deaf(1), turned[i]);
            due(kinds[i] + " it is as it was", x.count(9), asItIs[i]);
        }
        ApartBench apart = Checks.told(THREE.replace("deaf", "judge"));
        for (int judge = 0; judge < 3; judge++) {
            due("none of them is told", apart.deaf(judge), 1);
        }
    }

    // "the first DAY on which any is GUILTY, the last one on which one becomes so; none"
    private static void theSoonest() {
        due("no cases", new ApartBench().soonest(0), -1);
        due("none is", Checks.told("town;case 0 9;").soonest(1), -1);
        ApartBench nought = Checks.told(THREE.replace("deaf 5", "deaf 0"));
        due("day 0 is a day", nought.soonest(0), 0);
        due("day 0 is the last too", nought.soonest(1), 0);
        ApartBench x = Checks.told(THREE + "case 0 9;town;town;road 3 4 9;deaf 60 0 3 4 3 4 3 4 3;case 3 9 0 9 1 9;");
        due("the first", x.soonest(0), 5);
        due("the last, and one never", x.soonest(1), 60);
        x.feast(3, 0, 99);
        due("the last of all days", x.soonest(1), 114);
        x.start(0, 60);
        due("both later", x.soonest(0), 60);
    }

    // "TOWNS and DAYS (0 to 60) by which all SEEN is so: how many; the first (100 by the DAY and TOWN)"
    private static void whoSent() {
        ApartBench x = Checks.told("town;judge 59 0 0;case 0 9;");
        sent("nothing is seen", x, 0, 61, 0, 1);
        x.see(0, 0, false);
        sent("on day 60 alone", x, 0, 1, 6000, 1);
        x.see(0, 0, true);
        sent("both can't be", x, 0, 0, -1, 0);
        x.forget();
        x.forget();
        x.see(0, 0, true);
        sent("on all days but 60", x, 0, 60, 0, 0);
        x.start(0, 60);
        sent("on day 60 too", x, 0, 61, 0, 0);
        x.forget();
        x.see(0, 0, false);
        sent("none: 61 is too late", x, 0, 0, -1, 1);
        ApartBench nine = Checks.told("town;".repeat(9) + "judge 0 0 8;case 8 9;case 8 9;");
        sent("nine towns", nine, 0, 549, 0, 1);
        nine.see(0, 0, true);
        sent("the ninth on day 0", nine, 0, 1, 8, 0);
        sent("word of the other case", nine, 1, 0, -1, 0);
        nine.forget();
        nine.see(0, 0, false);
        sent("all but one", nine, 0, 548, 0, 1);
        ApartBench mute = Checks.told("town;town;judge 0 0 1;case 0 9;");
        mute.see(0, 0, false);
        sent("not SAID at all: it wasn't", mute, 0, 122, 0, 1);
        mute.see(0, 0, true);
        sent("not SAID at all, but seen", mute, 0, 0, -1, 0);
        ApartBench deaf = Checks.told("town;deaf 5 0 0;case 0 9;");
        deaf.see(0, 0, false);
        sent("a deaf one", deaf, 0, 61, 0, 1);
        for (int i = 0; i < 4; i++) {
            deaf.word(0, 0, i);
        }
        sent("a fifth word", deaf, 0, 61, 0, 1);
    }

    private static void sent(String what, ApartBench x, int cause, int many, int first, int without) {
        due(what + ": how many", x.sent(cause, 0), many);
        due(what + ": the first", x.sent(cause, 1), first);
        due(what + ": without", x.sent(cause, 2), without);
    }

    // "A couple RESTS, if neither would be better off by another choice: how many; the first (10 by both)"
    private static void games() {
        game("no judges", "town;case 0 9;", 0, -1);
        game("one judge", "town;judge 0 0 0;case 0 9;", 1, 0);
        game("five, never guilty", "town;" + "judge 0 0 0;".repeat(5) + "case 0 9;", 25, 0);
        game("three who are deaf", THREE, 9, 0);
        game("three who hear: none rests", THREE.replace("deaf", "judge"), 0, -1);
        String five = "town;town;town;deaf 0 0 0;deaf 0 0 1;judge 0 0 0;judge 0 0 0;judge 0 0 2;case 0 9 1 9 2 9;";
        game("the fifth must be deaf", five, 5, 40);
        // 2 is deaf by the first one's choice, or gets a mule: a deaf one's mule is for nothing
        game("made deaf ahead of the mule", THREE.replace("deaf 5 0 2", "judge 5 0 2"), 3, 20);
        // 0 is deaf, 2 hears of it as it is: the first must choose 2, and the second gives the mule to 1
        game("the second one's choice is told too",
                "town;town;town;road 0 2 1;deaf 0 0 0;judge 5 0 1;judge 9 0 2;case 0 9 1 9 2 9;", 3, 1);
        ApartBench two = Checks.told(THREE.replace("deaf", "judge") + "case 0 9;");
        due("none rests of one case, all of another", two.game(0, 0) * 10 + two.game(1, 0), 9);
        due("and once more", two.game(0, 0) * 10 + two.game(1, 0), 9);
        ApartBench won = Checks.told(THREE + "case 0 9;");
        due("all rest as it is guilty, all as it isn't", won.game(0, 0) * 10 + won.game(1, 0), 99);
        game("he hears of it as it is: deaf he counts",
                THREE.replace("deaf 5 0 1", "deaf 0 0 1").replace("deaf 5 0 2", "judge 9 0 2")
                + "road 1 2 1;", 3, 20);
    }

    private static void game(String what, String land, int many, int first) {
        ApartBench x = Checks.told(land);
        due(what + ": how many", x.game(0, 0), many);
        due(what + ": the first", x.game(0, 1), first);
    }

    private static void season(String what, ApartBench x, int seed, int years, int... want) {
        for (int i = 0; i < 3; i++) {
            due(what + ": season(" + seed + ", " + years + ", " + i + ")", x.season(seed, years, i), want[i]);
        }
    }

    // "n YEARS (0 to 40) .. all years together, the fewest in one, YEARS in which all are .. (Without TOWNS nothing is drawn.)"
    private static void seasons() {
        ApartBench none = new ApartBench();
        season("without towns", none, 7, 0, 0, 0, 0);
        season("without towns", none, 7, 1, 0, 0, 1);
        season("without towns", none, 7, 40, 0, 0, 40);
        ApartBench x = Checks.told(THREE);
        season("no years", x, 7, 0, 0, 0, 0);
        season("one year", x, 7, 1, 1, 1, 1);
        season("forty years", x, MIN_VALUE, 40, 40, 1, 40);
        ApartBench some = Checks.told(THREE + "case 0 9;");
        season("one is never guilty", some, MAX_VALUE, 40, 40, 1, 0);
        ApartBench six = Checks.told(THREE + "case 0 9 1 9 2 9;".repeat(5));
        season("six cases, forty years", six, 0, 40, 240, 6, 40);
        ApartBench never = Checks.told("town;case 0 9;");
        season("never guilty", never, 0, 40, 0, 0, 0);
    }

    private static ApartBench twoWhoMayMeet(int day, int apart) {
        return Checks.told(THREE.replace("deaf 5", "deaf " + day) + "road 0 1 " + apart + ";");
    }

    // "for 2 FLOODS more, a DRAW of TOWNS, then a DRAW of 30 (the DAY), a DRAW of 6 (how wide)"; the draws are by hand
    private static void drawsOfASeason() {
        // seed 194: (0, 29, 5) (1, 1, 5), then (1, 12, 4) (0, 19, 1)
        season("the last day, the widest", twoWhoMayMeet(29, 5), 194, 1, 0, 0, 0);
        season("the next year is another one", twoWhoMayMeet(29, 5), 194, 2, 1, 0, 1);
        season("a day wider apart", twoWhoMayMeet(29, 6), 194, 2, 2, 1, 2);
        season("the second flood", twoWhoMayMeet(1, 5), 194, 2, 1, 0, 1);
        season("the second year", twoWhoMayMeet(12, 4), 194, 1, 1, 1, 1);
        season("the second year", twoWhoMayMeet(12, 4), 194, 2, 1, 0, 1);
        season("its second flood", twoWhoMayMeet(19, 1), 194, 2, 1, 0, 1);
        // seed 645: (0, 29, 4)
        season("four wide", twoWhoMayMeet(29, 5), 645, 1, 1, 1, 1);
        season("four wide", twoWhoMayMeet(29, 4), 645, 1, 0, 0, 0);
        // seed 1864: (0, 16, 4) (1, 0, 5)
        season("day 0", twoWhoMayMeet(0, 5), 1864, 1, 0, 0, 0);
        // seeds that differ in their highest bit alone draw alike: (2, 29, 4) (0, 13, 2); (0, 18, 4) (1, 18, 1)
        season("the seed -1", twoWhoMayMeet(13, 2), -1, 1, 0, 0, 0);
        season("the most", twoWhoMayMeet(13, 2), MAX_VALUE, 1, 0, 0, 0);
        season("the most, further apart", twoWhoMayMeet(13, 3), MAX_VALUE, 1, 1, 1, 1);
        season("the least", twoWhoMayMeet(18, 4), MIN_VALUE, 1, 0, 0, 0);
        season("the seed 0", twoWhoMayMeet(18, 4), 0, 1, 0, 0, 0);
        season("the seed 0, further apart", twoWhoMayMeet(18, 5), 0, 1, 1, 1, 1);
        for (int seed = 0; seed < 50; seed++) {
            due("no flood on day 30", twoWhoMayMeet(30, 1).season(seed * 99991, 40, 0), 40);
            due("none is six wide", twoWhoMayMeet(seed % 30, 6).season(seed * 99991, 40, 0), 40);
        }
        floodsThatAreThere();
        theLastTown();
    }

    private static void floodsThatAreThere() {
        ApartBench x = twoWhoMayMeet(29, 5);
        for (int i = 1; i <= 4; i++) {
            due("floods that do nothing", x.flood(2, 29, 20), i);
        }
        season("a fifth and a sixth", x, 194, 2, 1, 0, 1);
        due("they are gone then", x.count(8) * 10 + x.count(9), 41);
        x.undo();
        x.flood(0, 29, 5);
        season("those that are there flood in each year", x, 194, 2, 0, 0, 0);
    }

    /** Seed 604 of nine towns: (8, 4, 3) (8, 25, 4), then (6, 2, 0) (8, 29, 0). */
    private static void theLastTown() {
        ApartBench x = Checks.told("town;".repeat(9) + "road 0 8 1;road 1 8 1;deaf 28 0 0 8;deaf 28 0 1 8;deaf 29 0 2;"
                + "case 0 9 1 9 2 9;");
        season("nought wide in the last town", x, 604, 1, 1, 1, 1);
        season("nought wide in the last town", x, 604, 2, 1, 0, 1);
        x.start(2, 28);
        season("a day ahead of it", x, 604, 2, 2, 1, 2);
    }

    // "AN IMAGE keeps DAYS of JUDGES, INNS, WORDS, FESTIVALS, FLOODS, ACTS that are kept, what is SEEN, STATUS."
    private static void imageKeeps() {
        ApartBench x = Checks.told("town inn;judge 7 0 0;case 0 9;");
        x.image();
        x.start(0, 60);
        x.inn(0, false);
        for (int i = 0; i < 4; i++) {
            x.word(0, 0, 99);
            x.feast(0, 99, 99);
            x.flood(0, 99, 20);
            x.see(0, 0, true);
            x.see(0, 0, true);
        }
        due("refused", x.word(0, 0, 0) + x.see(0, 0, true) + Checks.tell(x, "x"), -1);
        due("all is full", x.count(6) * 1000 + x.count(7) * 100 + x.count(8) * 10 + x.count(11), 4448);
        due("status", x.count(13) * 100 + x.count(14) * 10 + x.count(15), 111);
        due("as it was", x.restore() ? 1 : 0, 1);
        int[] want = {1, 0, 0, 0, 0, 0, 0, 0, 0, 0, 0};
        for (int i = 0; i < want.length; i++) {
            due("count(" + (5 + i) + ")", x.count(5 + i), want[i]);
        }
        due("the day", x.judge(0, 1), 7);
        due("no acts", x.undo(), -1);
        due("nothing seen", x.forget(), -1);
        imageKeepsWhatWasThere();
    }

    /** As many rows as there were, but others in their place: it is the old ones that come back. */
    private static void imageKeepsWhatWasThere() {
        ApartBench x = Checks.told("town;town;road 0 1 9;judge 7 0 0;judge 7 0 0;judge 7 0 1;case 0 9;case 1 9;");
        x.start(0, 6);
        x.word(0, 1, 5);
        x.feast(1, 7, 7);
        x.flood(0, 7, 0);
        x.start(1, 6);
        x.see(0, 2, false);
        x.image();
        java.util.List<String> before = View.of(x);
        x.forget();
        for (int i = 0; i < 5; i++) {
            x.undo();
        }
        x.inn(0, true);
        x.word(1, 0, 9);
        x.feast(0, 3, 8);
        x.flood(1, 9, 9);
        x.start(2, 60);
        x.see(1, 1, true);
        due("the word is another one", x.news(1, 0) * 100 + x.news(0, 1), 900 - 1);
        due("what is seen is not so", x.sent(0, 2), 0);
        x.restore();
        java.util.List<String> after = View.of(x);
        for (int i = 0; i < before.size(); i++) {
            due("as it was: " + before.get(i), after.get(i).equals(before.get(i)) ? 1 : 0, 1);
        }
        due("the last act", x.undo() * 100 + x.judge(1, 1), 407);
        due("the flood", x.undo() * 10 + x.count(8), 30);
        due("the feast", x.undo() * 10 + x.count(7), 20);
        due("the word", x.undo() * 10 + x.count(6), 10);
        due("the first act", x.undo() * 100 + x.judge(0, 1), 7);
        due("others are as told", x.judge(2, 1) * 10 + x.count(5), 70);
    }
}
