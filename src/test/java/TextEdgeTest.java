/** "Terms", part 1: each limit of a TEXT, the last that is allowed and the first that isn't; each FAULT's edge. */
public final class TextEdgeTest {
    private static final String NINE = "town;".repeat(9);
    private static final String ROW = "town;town;town;road 0 1 1;road 1 2 1;";
    private static final String JUDGES = "town;judge 0 0 0;deaf 0 0 0;wise 0 0 0;judge 0 0 0;wise 0 0 0;";
    private static final String CASES = "town;" + "case 0 5;".repeat(6);
    private static final String SEVEN_STOPS = ROW + "judge 0 0 0 1 2 1 0 1 2";
    private static final String SIX_PROOFS = NINE + "case 0 1 1 1 2 1 3 1 4 1 5 1";
    private static final String SIX_DEEP = "law ((((((";
    private static final String LINE_BEGINS = "town road gossip judge deaf wise case law";

    public static void main(String[] args) {
        atMost600Bytes();
        nothingAndBlanks();
        everyByteAsAText();
        everyByteBehindAWord();
        everyByteInAnExpr();
        wordsAreTheLongestRow();
        numbersOfOneToFourDigits();
        numbersThatWrapToOneThatWouldDo();
        atMost9Towns();
        innOrNone();
        atMost14Roads();
        daysOfARoad();
        gossip();
        atMost5Judges();
        firstDay();
        harsh();
        oneToSevenStops();
        atMost6Cases();
        oneToSixTownsOfACase();
        proof();
        linesEndInASemicolon();
        partsOfAnExpr();
        exprWithinOthers();
        notsSideBySide();
        wordsWhereAPartMustStand();
        townsToldAhead();
        roadsTwice();
        secondGossipAndLaw();
        routesThatAreNotJoined();
        ofOneTokenTheLeast();
        theFirstAlongTheText();
        cutOffAtEveryByte();
        aFullLand();
        Checks.finish("TextEdgeTest");
    }

    private static void due(String what, long got, long want) {
        Checks.due(what, got, want);
    }

    /** A FAULT at its place; the land of old, and all but STATUS, stays. */
    private static void fault(String text, int number, int place) {
        ApartBench x = Checks.told("town inn;town;road 0 1 7;gossip 20;");
        String of = " of '" + text + "'";
        due("land" + of, Checks.tell(x, text), number);
        due("fault()" + of, x.fault(), place);
        due("texts refused" + of, x.count(13), 1);
        due("the tape is empty" + of, x.count(12), 0);
        due("the old land stays" + of, x.count(0) * 1000 + x.count(5) * 100 + x.count(2), 2120);
        due("its road stays" + of, x.far(1, 0, 1), 14);
    }

    private static ApartBench fine(String text) {
        ApartBench x = Checks.told(text);
        due("fault() of '" + text + "'", x.fault(), -1);
        due("texts refused of '" + text + "'", x.count(13), 0);
        return x;
    }

    // "A TEXT of at most 600 bytes tells it."
    private static void atMost600Bytes() {
        String blanks = " ".repeat(600);
        due("the last five of 600 bytes", fine(blanks.substring(5) + "town;").count(0), 1);
        fault(blanks.substring(4) + "town", 1, 600);
        fault(blanks.substring(1) + "x", 1, 599);
        fault("town" + blanks.substring(4), 1, 600);
        due("600 bytes are one NUMBER", Checks.tell(new ApartBench(), "9".repeat(600)), 1);
        fault("gossip " + "0".repeat(592) + "1", 2, 7);
        fault("x".repeat(600), 1, 0);
        // 600 bytes, none of them too many: 283 numbers are added, the sum is compared
        String ahead = "town;judge 0 0 0;case 0 1;law ";
        String ones = "1+".repeat(282) + "1";
        due("600 bytes", (ahead + ones + "=283;").length(), 600);
        due("a law up to the last byte", fine(ahead + ones + "=283;").said(0, 0, 0), 1);
        due("a law up to the last byte", fine(ahead + ones + "=282;").said(0, 0, 0), 0);
    }

    // "LAND: LINE*."; "blanks (32, 10) between them count for nothing"
    private static void nothingAndBlanks() {
        due("nothing", fine("").count(0), 0);
        due("blanks alone", fine(" \n\n ").count(0), 0);
        due("blanks all over", fine("\n town\n\n  inn \n;  \n").count(5), 1);
        due("no blanks but where words would be one", fine("town;town;road0 1 2;gossip9;").far(0, 1, 1), 2);
        fault("to wn;", 1, 0);
        fault("town\n\n", 1, 6);
        due("blanks part a number", Checks.tell(new ApartBench(), "gossip 1 0;"), 1);
    }

    private static boolean isBlank(int b) {
        return b == 32 || b == 10;
    }

    private static boolean isLetter(int b) {
        return b >= 97 && b <= 122;
    }

    private static boolean isDigit(int b) {
        return b >= 48 && b <= 57;
    }

    // "TOKENS: words (a .. z ..), NUMBERS .., signs ; ( ) + - * / < =": no LINE begins with one byte
    private static void everyByteAsAText() {
        for (int b = 0; b < 256; b++) {
            if (isBlank(b)) {
                fine("" + (char) b);
            } else {
                fault("" + (char) b, 1, 0);
            }
        }
    }

    private static void everyByteBehindAWord() {
        for (int b = 0; b < 256; b++) {
            String text = "town" + (char) b + ";";
            if (isBlank(b)) {
                fine(text);
            } else if (isLetter(b)) {
                fault(text, 1, 0);
            } else {
                fault(text, 1, b == ';' ? 5 : 4);
            }
        }
        fault((char) ('t' | 128) + "own;", 1, 0);
        fault("tow" + (char) ('n' | 128) + ";", 1, 0);
        fault("town" + (char) (';' | 128), 1, 4);
        fault("town" + (char) (32 | 128) + ";", 1, 4);
    }

    private static void everyByteInAnExpr() {
        for (int b = 0; b < 256; b++) {
            String between = "law 1" + (char) b + "1;";
            if ("+-*/<=".indexOf(b) >= 0 || isDigit(b)) {
                fine(between);
            } else {
                fault(between, 1, isBlank(b) || b == ';' ? 6 : 5);
            }
            String alone = "law " + (char) b + ";";
            if (isDigit(b)) {
                fine(alone);
            } else if (isLetter(b)) {
                fault(alone, 3, 4);
            } else {
                fault(alone, 1, isBlank(b) || b == '(' ? 5 : 4);
            }
        }
    }

    // "words (a .. z, the longest row)"
    private static void wordsAreTheLongestRow() {
        fault("towninn;", 1, 0);
        fault("towns;", 1, 0);
        fault("tow;", 1, 0);
        fault("town innn;", 1, 5);
        fault("town in;", 1, 5);
        fault("law proofs;", 3, 4);
        fault("law proo;", 3, 4);
        fault("law proofharsh;", 3, 4);
        fault("law 1 orr 1;", 1, 6);
        fault("law notnot 1;", 3, 4);
        fine("law not(1)or(1)and not 1;");
        for (String word : LINE_BEGINS.split(" ")) {
            fault(word + "x", 1, 0);
            fault("x" + word, 1, 0);
            fault(word.substring(1), 1, 0);
            fault(word.toUpperCase(java.util.Locale.ROOT), 1, 0);
            for (int i = 0; i < word.length(); i++) {
                fault(word.substring(0, i) + "x" + word.substring(i + 1), 1, 0);
            }
        }
    }

    // "NUMBERS (1 to 4 digits)"; "a NUMBER of 5 digits or more"
    private static void numbersOfOneToFourDigits() {
        due("four digits", fine("gossip 0001;").count(2), 1);
        due("four digits", fine("gossip 0040;").count(2), 40);
        fault("gossip 00001;", 2, 7);
        fault("gossip 00040;", 2, 7);
        fault("gossip 10000;", 2, 7);
        fine("law 9999;");
        fine("law 0000;");
        fault("law 10000;", 2, 4);
        fault("law 00000;", 2, 4);
        fault("law 1+99999;", 2, 6);
        due("0009 is 9", fine("town;town;road 0000 0001 0009;").far(0, 1, 0), 9);
        fault("town;town;road 00000 1 9;", 2, 15);
        fault("town;town;road 0 00001 9;", 2, 17);
        fault("town;town;road 0 1 00009;", 2, 19);
        fault("town;judge 00000 0 0;", 2, 11);
        fault("town;judge 0 00000 0;", 2, 13);
        fault("town;judge 0 0 00000;", 2, 15);
        fault("town;case 00000 0;", 2, 10);
        fault("town;case 0 00000;", 2, 12);
        // where no NUMBER can stand, five digits can't either
        fault("12345", 1, 0);
        fault("town 12345;", 1, 5);
        fault("gossip 5 12345;", 1, 9);
        fault("law 1 12345;", 1, 6);
    }

    /** 2 to the 32nd and some more: cut off to an int they would be 0, 1, 9. */
    private static void numbersThatWrapToOneThatWouldDo() {
        fault("gossip 4294967297;", 2, 7);
        fault("gossip 18446744073709551617;", 2, 7);
        fault("law 4294967297;", 2, 4);
        fault("town;town;road 4294967296 1 1;", 2, 15);
        fault("town;town;road 0 4294967297 1;", 2, 17);
        fault("town;town;road 0 1 4294967305;", 2, 19);
        fault("town;judge 4294967296 0 0;", 2, 11);
        fault("town;case 0 4294967296;", 2, 12);
    }

    // "TOWNS 0, 1 .. (at most 9)"; "the first TOKEN of the 10th TOWN"
    private static void atMost9Towns() {
        due("no towns", fine("gossip 1;").count(0), 0);
        ApartBench x = fine(NINE + "judge 0 0 8;case 8 5;");
        due("nine towns", x.count(0), 9);
        due("the ninth", x.said(0, 0, 2), 8);
        fault(NINE + "town;", 2, 45);
        fault(NINE + "town inn;", 2, 45);
        fault(NINE + "\n town", 2, 47);
        fault(NINE + "town x", 2, 45);
        fault(NINE + "gossip 5;town;", 2, 54);
    }

    // "each with an INN or without"
    private static void innOrNone() {
        due("no inns", fine(NINE).count(5), 0);
        due("nine inns", fine("town inn;".repeat(9)).count(5), 511);
        due("the ninth alone", fine("town;".repeat(8) + "town inn;").count(5), 256);
        due("the first alone", fine("town inn;" + "town;".repeat(8)).count(5), 1);
        fault("town inn inn;", 1, 9);
        fault("town town;", 1, 5);
        fault("town xnn;", 1, 5);
        fault("town inx;", 1, 5);
        ApartBench x = fine("town inn;town inn;");
        due("a fault behind inns", Checks.tell(x, "town inn;town inn;town inn;x"), 1);
        due("the inns stay", x.count(5), 3);
        due("a text without inns", Checks.tell(x, "town;town;town;"), 0);
        due("has none", x.count(5), 0);
        due("and none the next time", Checks.tell(x, "town;town;town;") + x.count(5), 0);
    }

    private static String roads(int many) {
        StringBuilder text = new StringBuilder(NINE);
        for (int i = 0; i < many; i++) {
            text.append("road ").append(i < 8 ? 0 : 1).append(' ').append(i < 8 ? i + 1 : i - 6).append(" 9;");
        }
        return text.toString();
    }

    // "ROADS (at most 14)"; "the first TOKEN of .. the 15th ROAD"
    private static void atMost14Roads() {
        due("no roads", fine(NINE).count(1), 0);
        due("14 roads", fine(roads(14)).count(1), 14);
        due("the 14th", fine(roads(14)).far(1, 7, 0), 9);
        fault(roads(15), 2, roads(14).length());
        fault(roads(14) + "road", 2, roads(14).length());
        fault(roads(14) + "road 0 0 0;", 2, roads(14).length());
        fine(roads(14) + "gossip 1;");
    }

    // "two TOWNS, DAYS (1 to 9)"
    private static void daysOfARoad() {
        String road = "town;town;road 0 1 ";
        due("1 day", fine(road + "1;").far(0, 1, 0), 1);
        due("9 days", fine(road + "9;").far(1, 0, 0), 9);
        fault(road + "0;", 2, 19);
        fault(road + "10;", 2, 19);
        fault(road + "9999;", 2, 19);
        fault(road + ";", 1, 19);
        fault(road + "1 1;", 1, 21);
        fault(road + "-1;", 1, 19);
        fault("town;town;road 0 1;", 1, 18);
        fault("town;town;road 0;", 1, 16);
        fault("town;town;road;", 1, 14);
    }

    // "GOSSIP (1 to 40 tenths of a day for each day of ROADS; 10 without)"
    private static void gossip() {
        due("without", fine("town;").count(2), 10);
        due("1", fine("gossip 1;").count(2), 1);
        due("40", fine("gossip 40;").count(2), 40);
        fault("gossip 0;", 2, 7);
        fault("gossip 41;", 2, 7);
        fault("gossip ;", 1, 7);
        fault("gossip 1 1;", 1, 9);
        due("told behind the road", fine("town;town;road 0 1 9;gossip 40;").far(0, 1, 1), 36);
        due("told ahead of it", fine("gossip 40;town;town;road 0 1 9;").far(0, 1, 1), 36);
    }

    // "JUDGES 0, 1 .. (at most 5)"; "the first TOKEN of .. the 6th JUDGE"
    private static void atMost5Judges() {
        due("no judges", fine("town;").count(3), 0);
        ApartBench x = fine(JUDGES);
        due("five judges", x.count(3), 5);
        due("the kind of the first", x.judge(0, 0), 0);
        due("the kind of the second", x.judge(1, 0), 1);
        due("the kind of the fifth", x.judge(4, 0), 2);
        for (String kind : new String[] {"judge", "deaf", "wise"}) {
            fault(JUDGES + kind + " 0 0 0;", 2, JUDGES.length());
            fault(JUDGES + kind, 2, JUDGES.length());
        }
        fine(JUDGES + "town;");
    }

    // "the DAY on which he is in his first TOWN (0 to 60)"
    private static void firstDay() {
        for (String kind : new String[] {"judge", "deaf", "wise"}) {
            due("0", fine("town;" + kind + " 0 0 0;").judge(0, 1), 0);
            due("60", fine("town;" + kind + " 60 0 0;").judge(0, 1), 60);
            fault("town;" + kind + " 61 0 0;", 2, 6 + kind.length());
        }
        fault("town;judge 99 0 0;", 2, 11);
        fault("town;judge;", 1, 10);
    }

    // "HARSH (0 to 9)"
    private static void harsh() {
        due("0", fine("town;judge 0 0 0;").judge(0, 2), 0);
        due("9", fine("town;judge 0 9 0;").judge(0, 2), 9);
        fault("town;judge 0 10 0;", 2, 13);
        fault("town;judge 0;", 1, 12);
    }

    // "a ROUTE (1 to 7 TOWNS ..)"; "the 8th TOWN of a ROUTE"
    private static void oneToSevenStops() {
        fault("town;judge 0 0;", 1, 14);
        due("one", fine("town;judge 0 0 0;").judge(0, 3), 1);
        ApartBench x = fine(SEVEN_STOPS + ";");
        due("seven", x.judge(0, 3), 7);
        due("the seventh", x.stop(0, 6, 0) * 100 + x.stop(0, 6, 1), 206);
        fault(SEVEN_STOPS + " 1;", 2, SEVEN_STOPS.length() + 1);
        fault(SEVEN_STOPS + " 1", 2, SEVEN_STOPS.length() + 1);
        fault(SEVEN_STOPS + " x;", 1, SEVEN_STOPS.length() + 1);
        fault(SEVEN_STOPS + " ", 1, SEVEN_STOPS.length() + 1);
        fine(SEVEN_STOPS + ";" + SEVEN_STOPS.substring(ROW.length()) + ";");
    }

    // "CASES 0, 1 .. (at most 6)"; "the first TOKEN of .. the 7th CASE"
    private static void atMost6Cases() {
        due("no cases", fine("town;").count(4), 0);
        due("six cases", fine(CASES).count(4), 6);
        due("the sixth", fine(CASES).proof(5, 0), 5);
        fault(CASES + "case 0 5;", 2, CASES.length());
        fault(CASES + "case", 2, CASES.length());
    }

    // "in each of some TOWNS (1 to 6, each once) a PROOF"; "the 7th of a CASE"
    private static void oneToSixTownsOfACase() {
        fault("town;case;", 1, 9);
        due("one", fine("town;case 0 5;").proof(0, 0), 5);
        due("six", fine(SIX_PROOFS + ";").proof(0, 5), 1);
        due("not the seventh", fine(SIX_PROOFS + ";").proof(0, 6), -1);
        fault(SIX_PROOFS + " 6 1;", 2, SIX_PROOFS.length() + 1);
        fault(SIX_PROOFS + " 6", 2, SIX_PROOFS.length() + 1);
        fault(SIX_PROOFS + " x", 1, SIX_PROOFS.length() + 1);
        fault("town;case 0 5 0 5;", 4, 14);
        fault("town;town;case 0 5 1 5 0 5;", 4, 23);
        fine("town;case 0 5;case 0 5;");
    }

    // "a PROOF (0 to 9)"
    private static void proof() {
        due("0", fine("town;case 0 0;").proof(0, 0), 0);
        due("9", fine("town;case 0 9;").proof(0, 0), 9);
        fault("town;case 0 10;", 2, 12);
        fault("town;case 0;", 1, 11);
        fault("town;town;case 0 1 1;", 1, 20);
    }

    // "LINE: (..) ';'"
    private static void linesEndInASemicolon() {
        fault(";", 1, 0);
        fault("town;;", 1, 5);
        fault("town", 1, 4);
        fault("town inn", 1, 8);
        fault("gossip 5", 1, 8);
        fault("town;town;road 0 1 1", 1, 20);
        fault("town;judge 0 0 0", 1, 16);
        fault("town;case 0 0", 1, 13);
        fault("law 1", 1, 5);
        fault("town town", 1, 5);
        fault("town,", 1, 4);
    }

    // "EXPR: AND ('or' AND)*. AND: NOT ('and' NOT)*. NOT: 'not' NOT | SUM [('<' | '=') SUM]. .."
    private static void partsOfAnExpr() {
        fault("law;", 1, 3);
        fault("law ();", 1, 5);
        fault("law (1;", 1, 6);
        fault("law 1);", 1, 5);
        fault("law (1));", 1, 7);
        fault("law -1;", 1, 4);
        fault("law 1--1;", 1, 6);
        fault("law +1;", 1, 4);
        fault("law 1 2;", 1, 6);
        fault("law (1)(2);", 1, 7);
        fault("law 1 not 1;", 1, 6);
        fault("law 1 proof;", 1, 6);
        fault("law 1<2<3;", 1, 7);
        fault("law 1=2=3;", 1, 7);
        fault("law 1<2=3;", 1, 7);
        fault("law 1<=3;", 1, 6);
        fine("law 1<2 or 1<2 and not 1=2;");
        fine("law (1<2)<3;");
        for (String op : new String[] {"+", "-", "*", "/", "<", "="}) {
            fault("law 1" + op + ";", 1, 6);
            fault("law 1" + op, 1, 6);
            fault("law " + op + "1;", 1, 4);
        }
        fault("law 1 or;", 1, 8);
        fault("law 1 and;", 1, 9);
        fault("law not;", 1, 7);
    }

    // "the first TOKEN .. of an EXPR within 6 others (a NUMBER, any word, a parenthesis)"
    private static void exprWithinOthers() {
        fine("law (((((1)))));");
        fine("law (((((1)))))+(((((1)))));");
        fine("law (((((1)+(1)))));");
        fault("law ((((((1))))));", 2, 10);
        fault("law (((((1)))))+((((((1", 2, 22);
        fault("law (((((1+(1", 2, 12);
        for (String first : new String[] {"0", "9999", "99999", "proof", "not 1", "or", "and", "foo", "inn", "law", "("}) {
            fault(SIX_DEEP + first, 2, 10);
            fault(SIX_DEEP + " \n" + first, 2, 12);
        }
        for (String first : new String[] {")", "+", "-", "*", "/", "<", "=", ";", "#", "A"}) {
            fault(SIX_DEEP + first, 1, 10);
        }
        fault(SIX_DEEP, 1, 10);
        fault(SIX_DEEP + "  ", 1, 12);
    }

    // "the seventh 'not' side by side"
    private static void notsSideBySide() {
        fine("law not 1;");
        fine("law not not not not not not 1;");
        fault("law not not not not not not not 1;", 2, 28);
        fault("law not not not not not not not", 2, 28);
        fault("law not not not not not not foo;", 3, 28);
        fine("law not not not not not not(not not not not not not 1);");
        fault("law not not not not not not(not not not not not not not 1);", 2, 52);
        fine("law not not not not not not 1 and not not not not not not 1 or not not not not not not 1;");
        fault("law 1 or not not not not not not\nnot 1;", 2, 33);
        fine("law " + "(not not not not not not ".repeat(5) + "1" + ")".repeat(5) + ";");
    }

    // "3 any word where a PART must stand that is no VALUE"
    private static void wordsWhereAPartMustStand() {
        for (String value : new String[] {"proof", "harsh", "day", "town", "said"}) {
            fine("law " + value + ";");
            fine("law 1+" + value + "*(" + value + ");");
        }
        for (String near : new String[] {"xroof", "proox", "xarsh", "harsx", "xay", "dax", "xown", "towx", "xaid",
            "saix", "xot", "nox"}) {
            fault("law " + near + ";", 3, 4);
        }
        for (String near : new String[] {"xr", "ox", "xnd", "anx", "orr", "andd"}) {
            fault("law 1 " + near + " 1;", 1, 6);
        }
        for (String word : new String[] {"or", "and", "inn", "law", "case", "judge", "gossip", "road", "days", "x", "a", "z"}) {
            fault("law " + word + ";", 3, 4);
            fault("law not " + word + ";", 3, 8);
            fault("law 1+" + word + ";", 3, 6);
            fault("law (" + word + ");", 3, 5);
            fault("law 1 or " + word + ";", 3, 9);
            fault("law 1 and " + word + ";", 3, 10);
        }
        for (String op : new String[] {"+", "-", "*", "/", "<", "="}) {
            fault("law 1" + op + "not 1;", 3, 6);
        }
    }

    // "a TOWN that isn't told ahead"
    private static void townsToldAhead() {
        fault("road 0 1 1;", 3, 5);
        fault("road 0 1 1;town;town;", 3, 5);
        fault("town;road 0 1 1;town;", 3, 12);
        fault("town;road 1 0 1;", 3, 10);
        fault("judge 0 0 0;", 3, 10);
        fault("town;judge 0 0 1;town;", 3, 15);
        fault("town;judge 0 0 9999;", 3, 15);
        fault("case 0 1;", 3, 5);
        fault("town;case 1 1;", 3, 10);
        fault("town;case 0 1 1 1;", 3, 14);
        fault(NINE + "case 9 1;", 3, 50);
        fine("town;case 0 1;town;case 1 1;");
    }

    // "4 the second TOWN of a ROAD that is the first one, or joined to it already"
    private static void roadsTwice() {
        fault("town;road 0 0 1;", 4, 12);
        fault("town;road 0 0 99;", 4, 12);
        fault("town;town;road 0 1 1;road 0 1 1;", 4, 28);
        fault("town;town;road 0 1 1;road 1 0 1;", 4, 28);
        fine("town;town;town;road 0 1 1;road 0 2 1;road 1 2 1;");
    }

    // "5 a second 'gossip', 'law'"
    private static void secondGossipAndLaw() {
        fault("gossip 5;gossip 5;", 5, 9);
        fault("gossip 5;gossip", 5, 9);
        fault("law 1;law 1;", 5, 6);
        fault("law 1;law", 5, 6);
        fault("law 0;law 0;", 5, 6);
        fault("gossip 10;town;gossip 10;", 5, 15);
        ApartBench x = fine("gossip 5;law 1;");
        due("in the next text they are the first ones", Checks.tell(x, "gossip 6;law 1;"), 0);
        due("that is its gossip", x.count(2), 6);
        due("a text with a fault behind them", Checks.tell(x, "gossip 7;law 1;x"), 1);
        due("leaves the gossip", x.count(2), 6);
        due("and they are the first ones again", Checks.tell(x, "law 1;gossip 8;"), 0);
    }

    // "6 a TOWN of a ROUTE that isn't joined to the one ahead"
    private static void routesThatAreNotJoined() {
        fault("town;judge 0 0 0 0;", 6, 17);
        fault("town;town;judge 0 0 0 1;", 6, 22);
        fault("town;town;judge 0 0 0 1;road 0 1 1;", 6, 22);
        fault(ROW + "judge 0 0 0 2;", 6, ROW.length() + 12);
        fault(ROW + "deaf 0 0 0 1 2 0;", 6, ROW.length() + 15);
        fault(ROW + "wise 0 0 0 1 1;", 6, ROW.length() + 13);
        fine(ROW + "judge 0 0 2 1 0 1;");
    }

    // "of one TOKEN the least"
    private static void ofOneTokenTheLeast() {
        fault("town;road 0 99999 1;", 2, 12);
        fault("town;road 99999 0 1;", 2, 10);
        fault("town;judge 0 0 99999;", 2, 15);
        fault(SEVEN_STOPS + " 2;", 2, SEVEN_STOPS.length() + 1);
        fault(SEVEN_STOPS + " 9;", 2, SEVEN_STOPS.length() + 1);
        fault(SEVEN_STOPS + " 99999;", 2, SEVEN_STOPS.length() + 1);
        fault(SIX_PROOFS + " 0 1;", 2, SIX_PROOFS.length() + 1);
        fault(SIX_PROOFS + " 9 1;", 2, SIX_PROOFS.length() + 1);
        fault(ROW + "judge 0 0 0 3;", 3, ROW.length() + 12);
        fault(ROW + "judge 0 0 0 00002;", 2, ROW.length() + 12);
        fault("town;case 0 5 00000 5;", 2, 14);
    }

    // "FAULTS, the first along the text, at a TOKEN's first byte"
    private static void theFirstAlongTheText() {
        fault("town;judge 0 0 0 0;x", 6, 17);
        fault("gossip 5;gossip 99;x", 5, 9);
        fault("town;road 0 0 0;", 4, 12);
        fault("town;case 5 55;", 3, 10);
        fault("  gossip   99999 x", 2, 11);
        fault("\n\n  foo", 1, 4);
    }

    // "(the text's length where it ends too soon)": within a word its first byte is the place
    private static void cutOffAtEveryByte() {
        cutOff("town;town inn;road 0 1 2 ;",
                new int[] {0, 1, 1, 1, 1, 0, 1, 1, 1, 1, 1, 1, 1, 1, 0, 1, 1, 1, 1, 1, 1, 1, 1, 1, 1, 1, 0},
                new int[] {0, 0, 0, 0, 4, 0, 5, 5, 5, 9, 10, 10, 10, 13, 0, 14, 14, 14, 18, 19, 20, 21, 22, 23, 24, 25, 0});
        cutOff("law(proof+2)<3 or said;",
                new int[] {0, 1, 1, 1, 1, 3, 3, 3, 3, 1, 1, 1, 1, 1, 1, 1, 1, 1, 1, 3, 3, 3, 1, 0},
                new int[] {0, 0, 0, 3, 4, 4, 4, 4, 4, 9, 10, 11, 12, 13, 14, 15, 15, 17, 18, 18, 18, 18, 22, 0});
        cutOff("gossip 40;", new int[] {0, 1, 1, 1, 1, 1, 1, 1, 1, 1, 0}, new int[] {0, 0, 0, 0, 0, 0, 6, 7, 8, 9, 0});
    }

    private static void cutOff(String text, int[] numbers, int[] places) {
        for (int n = 0; n <= text.length(); n++) {
            if (numbers[n] == 0) {
                fine(text.substring(0, n));
            } else {
                fault(text.substring(0, n), numbers[n], places[n]);
            }
        }
    }

    /** All that can be told at once, as much as there may be of each, in one text of 600 bytes. */
    private static void aFullLand() {
        StringBuilder text = new StringBuilder("town inn;".repeat(9));
        for (int i = 0; i < 8; i++) {
            text.append("road ").append(i).append(' ').append(i + 1).append(" 9;");
        }
        for (int i = 2; i < 8; i++) {
            text.append("road 0 ").append(i).append(" 9;");
        }
        text.append("gossip 40;judge 60 9 0 1 0 1 0 1 0;judge 60 9 2 3 2 3 2 3 2;deaf 60 9 4 5 4 5 4 5 4;")
            .append("judge 60 9 6 7 6 7 6 7 6;wise 60 9 8 7 8 7 8 7 8;")
            .append("case 0 9 1 9 2 9 3 9 4 9 5 9;".repeat(6)).append("law proof;");
        text.append(" ".repeat(600 - text.length()));
        ApartBench x = fine(text.toString());
        int[] want = {9, 14, 40, 5, 6, 511, 0, 0, 0, 6};
        for (int what = 0; what < want.length; what++) {
            due("a full land's count(" + what + ")", x.count(what), want[what]);
        }
        for (int c = 0; c < 6; c++) {
            due("a full land's guilty(" + c + ", 0)", x.guilty(c, 0), 60);
            due("a full land's guilty(" + c + ", 1)", x.guilty(c, 1), 7);
        }
        due("the last day of all", x.judge(4, 4), 114);
        due("two meet in the inn of 7", x.met(3, 4), 69);
    }
}
