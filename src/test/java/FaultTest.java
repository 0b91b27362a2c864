import java.util.ArrayList;
import java.util.HashSet;
import java.util.List;
import java.util.Set;
import java.util.regex.Matcher;
import java.util.regex.Pattern;

/** Promises 3 and 4: each fault at its place, by hand and against a second reader. */
public final class FaultTest {
    private static final String TEN = "town;".repeat(9);
    private static final String LINE = "town;town;town;road 0 1 1;road 1 2 1;";

    public static void main(String[] args) {
        lines();
        limits();
        towns();
        expressions();
        cutOff();
        stateStays();
        for (int run = 1; run <= 60000; run++) {
            againstSecondReader(new Checks.Dice(run));
        }
        Checks.finish("FaultTest");
    }

    private static void fault(String text, int fault, int place) {
        ApartBench x = new ApartBench();
        String what = "land of '" + text + "'";
        Checks.due(what, Checks.tell(x, text), fault);
        Checks.due("fault() of " + what, x.fault(), place);
        Checks.due("count(13) of " + what, x.count(13), fault == 0 ? 0 : 1);
        Checks.due("count(12) of " + what, x.count(12), 0);
        int[] second = new SecondReader(text).read();
        Checks.due("second reader's " + what, second[0] * 1000 + second[1], fault * 1000 + place);
    }

    private static void fine(String text) {
        fault(text, 0, -1);
    }

    private static void lines() {
        fine("");
        fine(" \n  ");
        fine("town;");
        fine("town inn;\n town ; ");
        fine("town;town;road0 1 2;gossip40;judge0 0 0 1;deaf60 9 1;wise 0001 1 0;case 0 0 1 9;law proof;");
        fault("x", 1, 0);
        fault("towninn;", 1, 0);
        fault("Town;", 1, 0);
        fault("town", 1, 4);
        fault("town  \n", 1, 7);
        fault("town inn", 1, 8);
        fault("town 5;", 1, 5);
        fault("town\t;", 1, 4);
        fault("town;\r", 1, 5);
        fault("town;" + (char) 0, 1, 5);
        fault("town" + (char) 0xfe + ";", 1, 4);
        fault(";", 1, 0);
        fault("5", 1, 0);
        fault("12345", 1, 0);
        fault("inn;", 1, 0);
        fault("xown;", 1, 0);
        fault("towx;", 1, 0);
        fault("judges 0 0 0;", 1, 0);
        fault("town inn inn;", 1, 9);
        fault("road", 1, 4);
        fault("road ;", 1, 5);
        fault("gossip;", 1, 6);
        fault("gossip x;", 1, 7);
        fault("gossip 10 10;", 1, 10);
        fault("judge 1 1;", 1, 9);
        fault("town;judge 1 1 0 +;", 1, 17);
        fault("town;case 0;", 1, 11);
        fault("town;case;", 1, 9);
        fault("town;case 0 5 x;", 1, 14);
        fault("law;", 1, 3);
        fault("law", 1, 3);
    }

    private static void limits() {
        fault(TEN + "town;", 2, 45);
        fault(TEN + "town x", 2, 45);
        fault("gossip 0;", 2, 7);
        fault("gossip 41;", 2, 7);
        fault("gossip 00010;", 2, 7);
        fine("gossip 0010;");
        fine("gossip 1;");
        fine("gossip 40;");
        fault("town;town;road 0 1 0;", 2, 19);
        fault("town;town;road 0 1 10;", 2, 19);
        fine("town;town;road 0 1 9;");
        fault("town;judge 61 0 0;", 2, 11);
        fault("town;judge 60 10 0;", 2, 14);
        fault("town;case 0 10;", 2, 12);
        fault("town;case 00000 10;", 2, 10);
        fault("gossip 99999999999999999999;", 2, 7);
        fine(roads(14));
        fault(roads(15), 2, roads(14).length());
        String judges = "town;" + "judge 0 0 0;deaf 0 0 0;wise 0 0 0;judge 0 0 0;judge 0 0 0;";
        fine(judges);
        for (String kind : new String[] {"judge", "deaf", "wise"}) {
            fault(judges + kind + " 0 0 0;", 2, judges.length());
        }
        String cases = "town;" + "case 0 5;".repeat(6);
        fine(cases);
        fault(cases + "case", 2, cases.length());
        String route = LINE + "judge 0 0 0 1 2 1 0 1 2";
        fine(route + ";");
        fault(route + " 1;", 2, route.length() + 1);
        fault(route + " 77777;", 2, route.length() + 1);
        fault(route + " 2;", 2, route.length() + 1);
        fault(route + " x;", 1, route.length() + 1);
        String proofs = TEN + "case 0 1 1 1 2 1 3 1 4 1 5 1";
        fine(proofs + ";");
        fault(proofs + " 6 1;", 2, proofs.length() + 1);
        fault(proofs + " 0", 2, proofs.length() + 1);
    }

    private static String roads(int many) {
        StringBuilder text = new StringBuilder(TEN);
        int told = 0;
        for (int a = 0; a < 9; a++) {
            for (int b = a + 1; b < 9 && told < many; b++) {
                text.append("road ").append(a).append(' ').append(b).append(" 1;");
                told++;
            }
        }
        return text.toString();
    }

    private static void towns() {
        fault("road 0 1 1;", 3, 5);
        fault("town;road 0 1 1;", 3, 12);
        fault("town;road 1 0 1;", 3, 10);
        fault("town;road 0 9999 1;", 3, 12);
        fault("town;road 0 0 1;", 4, 12);
        fault("town;town;road 0 1 1;road 1 0 2;", 4, 28);
        fault("town;town;road 0 1 1;road 0 1 2;", 4, 28);
        fault("judge 0 0 0;", 3, 10);
        fault("town;judge 0 0 1;", 3, 15);
        fault("case 0 1;", 3, 5);
        fault("town;case 0 1 1 1;", 3, 14);
        fault("town;case 0 1 0 1;", 4, 14);
        fault("gossip 5;gossip 5;", 5, 9);
        fault("gossip 5;gossip", 5, 9);
        fault("law 1;law 2;", 5, 6);
        fault("town;judge 0 0 0 0;", 6, 17);
        fault(LINE + "judge 0 0 0 2;", 6, LINE.length() + 12);
        fault(LINE + "judge 0 0 0 3;", 3, LINE.length() + 12);
        fault("town;town;judge 0 0 0 1;road 0 1 1;", 6, 22);
    }

    private static void expressions() {
        fine("law 9999;");
        fault("law 10000;", 2, 4);
        fault("law 00000;", 2, 4);
        fault("law 1 00000;", 1, 6);
        fault("law -1;", 1, 4);
        fault("law 1+;", 1, 6);
        fault("law 1+", 1, 6);
        fault("law foo;", 3, 4);
        fault("law or;", 3, 4);
        fault("law z;", 3, 4);
        fault("law a;", 3, 4);
        fault("law {;", 1, 4);
        fault("law `;", 1, 4);
        fault("law :;", 1, 4);
        fault("law 1 and or;", 3, 10);
        fault("law 1+not 2;", 3, 6);
        fault("law 1<not 2;", 3, 6);
        fault("law inn;", 3, 4);
        fine("law town;");
        fault("law 1 foo;", 1, 6);
        fault("law 1 not 1;", 1, 6);
        fault("law 1 proof;", 1, 6);
        fault("law 1<2<3;", 1, 7);
        fault("law 1=2=3;", 1, 7);
        fault("law 1=2<3;", 1, 7);
        fine("law (1=2)<3;");
        fine("law not 1<2 and not not 3=4 or 5;");
        fault("law (1;", 1, 6);
        fault("law 1);", 1, 5);
        fault("law ();", 1, 5);
        fault("law (", 1, 5);
        fine("law (((((1)))));");
        fault("law ((((((1))))));", 2, 10);
        fault("law ((((((proof", 2, 10);
        fault("law ((((((not 1", 2, 10);
        fault("law ((((((foo", 2, 10);
        fault("law (((((((", 2, 10);
        fault("law ((((((12345", 2, 10);
        fault("law (((((()", 1, 10);
        fault("law ((((((+", 1, 10);
        fault("law ((((((", 1, 10);
        fine("law (((((1)))))+(((((2)))));");
        fine("law not not not not not not 1;");
        fault("law not not not not not not not 1;", 2, 28);
        fine("law not not not not not not (not not 1);");
        fine("law not not not not not not 1 and not not not not not not 1;");
        fault("law not;", 1, 7);
        fault("law notnot 1;", 3, 4);
        fault("law not not foo;", 3, 12);
    }

    private static void cutOff() {
        String text = "town;law 12345678;  ";
        int[] faults = {0, 1, 1, 1, 1, 0, 1, 1, 1, 1, 1, 1, 1, 1, 2, 2, 2, 2, 2, 2, 2};
        int[] places = {-1, 0, 0, 0, 4, -1, 5, 5, 8, 9, 10, 11, 12, 13, 9, 9, 9, 9, 9, 9, 9};
        for (int n = 0; n <= 20; n++) {
            ApartBench x = new ApartBench();
            x.feed(0x746f776e, 0x3b6c6177, 0x20313233, 0x34353637, 0x383b2020);
            Checks.due("the first " + n + " of " + text, x.land(n), faults[n]);
            Checks.due("the place in the first " + n + " of " + text, x.fault(), places[n]);
        }
    }

    private static void stateStays() {
        ApartBench x = Checks.told(LINE + "judge 3 0 0 1;case 0 7;");
        x.start(0, 9);
        x.word(0, 1, 5);
        x.see(0, 0, true);
        x.image();
        Checks.due("a text with a fault", Checks.tell(x, "town;town"), 1);
        Checks.due("its place", x.fault(), 9);
        Checks.due("towns stay", x.count(0), 3);
        Checks.due("the judge's day stays", x.judge(0, 1), 9);
        Checks.due("words stay", x.count(6), 1);
        Checks.due("acts stay", x.count(10), 2);
        Checks.due("seen stays", x.count(11), 1);
        Checks.due("status", x.count(13), 1);
        Checks.due("the tape is empty", x.count(12), 0);
        Checks.due("the image stays", x.restore() ? 1 : 0, 1);
        Checks.due("status is as the image", x.count(13), 0);
        Checks.due("another fault", Checks.tell(x, "case"), 1);
        Checks.due("then a good one", Checks.tell(x, "town inn;"), 0);
        Checks.due("no fault", x.fault(), -1);
        Checks.due("status stays", x.count(13), 1);
        Checks.due("towns anew", x.count(0), 1);
        Checks.due("inns anew", x.count(5), 1);
        Checks.due("no judges", x.count(3), 0);
        Checks.due("no words", x.count(6), 0);
        Checks.due("no acts", x.count(10), 0);
        Checks.due("nothing seen", x.count(11), 0);
        Checks.due("no image", x.restore() ? 1 : 0, 0);
    }

    private static final String[] BASES = {
        "town inn;town;road 0 1 2;gossip 10;judge 0 5 0 1 0;case 0 6 1 7;law proof-harsh<5;",
        TEN + "road 0 1 1;road 1 2 2;wise 1 1 0 1 2 1 0 1 2;case 0 1 1 1 2 1 3 1 4 1 5 1;law 1;",
        "town;law not not not not not not(((((proof or 1)))))and said=2 or day/3*2+town<harsh-1;gossip 7;",
        "town;judge 0 0 0;deaf 0 0 0;wise 0 0 0;judge 0 0 0;judge 0 0 0;case 0 1;case 0 2;case 0 3;case 0 4;"
            + "case 0 5;case 0 6;",
        TEN + "road 0 1 1;road 0 2 1;road 0 3 1;road 0 4 1;road 0 5 1;road 0 6 1;road 0 7 1;road 0 8 1;"
            + "road 1 2 1;road 1 3 1;road 1 4 1;road 1 5 1;road 1 6 1;road 1 7 1;deaf 0 9 1 7 0;",
    };
    private static final String[] BITS = {"town", "inn", "road", "gossip", "judge", "deaf", "wise", "case", "law", "or",
        "and", "not", "proof", "harsh", "day", "said", "foo", "0", "1", "2", "5", "8", "9", "10", "41", "61", "9999",
        "12345", ";", "(", ")", "+", "-", "*", "/", "<", "=", "#", "\t", "A", "town;", "case 0 5;", "judge 0 0 0;",
        "not not", "((", "))"};

    private static void againstSecondReader(Checks.Dice dice) {
        List<String> tokens = new ArrayList<>(SecondReader.pieces(BASES[dice.below(BASES.length)]));
        int changes = 1 + dice.below(3);
        for (int i = 0; i < changes && !tokens.isEmpty(); i++) {
            int at = dice.below(tokens.size());
            switch (dice.below(4)) {
                case 0:
                    tokens.remove(at);
                    break;
                case 1:
                    tokens.set(at, BITS[dice.below(BITS.length)]);
                    break;
                case 2:
                    tokens.add(at, BITS[dice.below(BITS.length)]);
                    break;
                default:
                    tokens.add(at, tokens.get(dice.below(tokens.size())));
                    break;
            }
        }
        StringBuilder text = new StringBuilder();
        for (String token : tokens) {
            text.append(token).append(dice.oneIn(8) ? "" : dice.oneIn(4) ? "\n" : " ");
        }
        String all = text.substring(0, Math.min(text.length(), dice.oneIn(10) ? dice.below(600) : 600));
        ApartBench x = new ApartBench();
        int[] second = new SecondReader(all).read();
        Checks.due("land of '" + all + "'", Checks.tell(x, all), second[0]);
        Checks.due("fault() of '" + all + "'", x.fault(), second[1]);
    }

    /** Tells of each token in turn what may stand there, by a stack of what is still awaited. */
    private static final class SecondReader {
        private static final Pattern PIECE = Pattern.compile("[a-z]+|[0-9]+|[^a-z0-9 \n]");

        private final String text;
        private final List<String> tokens = new ArrayList<>();
        private final List<Integer> places = new ArrayList<>();
        private int at;
        private int towns;
        private int roads;
        private int judges;
        private int cases;
        private boolean gossip;
        private boolean law;
        private final Set<String> joined = new HashSet<>();

        private static final class Fault extends RuntimeException {
            private static final long serialVersionUID = 1;
            private final int number;
            private final int place;

            Fault(int number, int place) {
                this.number = number;
                this.place = place;
            }
        }

        SecondReader(String text) {
            this.text = text;
            Matcher m = PIECE.matcher(text);
            while (m.find()) {
                tokens.add(m.group());
                places.add(m.start());
            }
        }

        static List<String> pieces(String text) {
            return new SecondReader(text).tokens;
        }

        int[] read() {
            try {
                while (at < tokens.size()) {
                    line();
                    must(";");
                }
                return new int[] {0, -1};
            } catch (Fault f) {
                return new int[] {f.number, f.place};
            }
        }

        private String token() {
            return at < tokens.size() ? tokens.get(at) : "";
        }

        private void wrong(boolean isWrong, int number) {
            if (isWrong) {
                throw new Fault(number, at < places.size() ? places.get(at) : text.length());
            }
        }

        private void must(String token) {
            wrong(!token().equals(token), 1);
            at++;
        }

        private void line() {
            String word = token();
            wrong(!List.of("town", "road", "gossip", "judge", "deaf", "wise", "case", "law").contains(word), 1);
            wrong(word.equals("town") && towns == 9 || word.equals("road") && roads == 14
                    || List.of("judge", "deaf", "wise").contains(word) && judges == 5
                    || word.equals("case") && cases == 6, 2);
            wrong(word.equals("gossip") && gossip || word.equals("law") && law, 5);
            at++;
            switch (word) {
                case "town":
                    at += token().equals("inn") ? 1 : 0;
                    towns++;
                    break;
                case "road":
                    int a = town();
                    wrong(isTold() && (valueHere() == a || joined.contains(a + "-" + valueHere())), 4);
                    int b = town();
                    number(1, 9);
                    joined.add(a + "-" + b);
                    joined.add(b + "-" + a);
                    roads++;
                    break;
                case "gossip":
                    number(1, 40);
                    gossip = true;
                    break;
                case "case":
                    proofs();
                    cases++;
                    break;
                case "law":
                    expr(0);
                    law = true;
                    break;
                default:
                    number(0, 60);
                    number(0, 9);
                    route();
                    judges++;
                    break;
            }
        }

        private boolean isNumber() {
            return token().matches("[0-9]+");
        }

        private boolean isTold() {
            return token().matches("[0-9]{1,4}") && valueHere() < towns;
        }

        private int valueHere() {
            return Integer.parseInt(token());
        }

        private int number(int least, int most) {
            wrong(!isNumber(), 1);
            wrong(token().length() > 4 || valueHere() < least || valueHere() > most, 2);
            int value = valueHere();
            at++;
            return value;
        }

        private int town() {
            wrong(!isNumber(), 1);
            wrong(token().length() > 4, 2);
            wrong(!isTold(), 3);
            return number(0, 9999);
        }

        private void route() {
            int ahead = town();
            for (int many = 1; isNumber(); many++) {
                wrong(many == 7, 2);
                wrong(isTold() && !joined.contains(ahead + "-" + valueHere()), 6);
                ahead = town();
            }
        }

        private void proofs() {
            Set<Integer> has = new HashSet<>();
            do {
                wrong(has.size() == 6, 2);
                wrong(isTold() && has.contains(valueHere()), 4);
                has.add(town());
                number(0, 9);
            } while (isNumber());
        }

        /** Not by levels: one row of parts and what joins them, with what the part ahead allows. */
        private void expr(int depth) {
            boolean first = true;
            boolean compared = false;
            boolean mayBeNot = true;
            while (true) {
                wrong(first && depth == 6 && (isNumber() || token().matches("[a-z]+") || token().equals("(")), 2);
                first = false;
                int nots = 0;
                while (mayBeNot && token().equals("not")) {
                    wrong(nots == 6, 2);
                    nots++;
                    at++;
                }
                part(depth);
                if (List.of("or", "and").contains(token())) {
                    compared = false;
                    mayBeNot = true;
                } else if (List.of("+", "-", "*", "/").contains(token())) {
                    mayBeNot = false;
                } else if (List.of("<", "=").contains(token()) && !compared) {
                    compared = true;
                    mayBeNot = false;
                } else {
                    return;
                }
                at++;
            }
        }

        private void part(int depth) {
            if (isNumber()) {
                wrong(token().length() > 4, 2);
                at++;
            } else if (token().matches("[a-z]+")) {
                wrong(!List.of("proof", "harsh", "day", "town", "said").contains(token()), 3);
                at++;
            } else {
                must("(");
                expr(depth + 1);
                must(")");
            }
        }
    }
}
