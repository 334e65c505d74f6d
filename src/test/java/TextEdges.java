/** Terms 3, promises 22 to 25: acts of lands, the tape, what counts. */
final class TextEdges extends Edges {
    private static final String DIGITS = "0123456789";
    private static final String NAMES = "kscelrypnj";
    private static final String BINARY = "|&+-*/%";
    private static final String COMPARING = "<=>";

    static void all() {
        chapter("Terms 3");
        termsOfActs();
        termsOfTheTape();
        termsOfSigns();
        termsOfNames();
        termsOfNamesOfUses();
        termsOfNumbers();
        termsOfLines();
        termsOfFaults();
        termsOfBounds();
        termsOfCounted();
        termsOfBase();
        termsOfDue();
        feeding();
        text();
        inForce();
        law();
    }

    // ---- what texts say

    /** What a text says as TOP of a new film with three EPISODES and 7 POINTS; held within 0 .. 99999999. */
    private static int top(String bytes) {
        ReelBack x = new ReelBack();
        x.house(0);
        x.film(0, 3);
        x.point(0, 0, 7);
        x.prove(0);
        make(x, 3, 0, bytes);
        return x.law(0, 0, 0, 0, 3);
    }

    private static void says(String bytes, int want) {
        due(bytes, top(bytes), want);
    }

    /** The place of the FAULT, -1 for a TEXT. */
    private static int faultOf(String bytes) {
        ReelBack x = new ReelBack();
        int answer = make(x, 0, 0, bytes);
        return answer >= 0 ? -1 : -100 - answer;
    }

    private static void faultAt(String bytes, int place) {
        due("FAULT of " + bytes, faultOf(bytes), place);
    }

    /** Of all 256 bytes behind a start some make a TEXT of it, some ask for more, with all others none goes on. */
    private static void everyByte(String start, String whole, String asking) {
        for (int b = 0; b < 256; b++) {
            char c = (char) b;
            int want = whole.indexOf(c) >= 0 ? -1 : asking.indexOf(c) >= 0 ? start.length() + 1 : start.length();
            due("FAULT of " + start + " and byte " + b, faultOf(start + c), want);
        }
    }

    // ---- terms

    private static void termsOfActs() {
        edge("ACTS: TEXTS of a LAND and a USE: 0 COUNTS (hundredths of a COST), 1 RATE (hundredths of what counts), "
            + "2 NEED (POINTS that a FILM must have), 3 TOP (the most a FILM can get), "
            + "4 DOUBLES (whether a later one counts)", () -> {
            ReelBack x = studio();
            wage(x, 0, 0, 1000);
            draft(x, 0, 1, 0, 0);
            x.set(5, 1000);
            x.cost(1, 1000);
            make(x, 0, 0, "50");
            due("COUNTS", x.base(0, 0, -1, 0, 0), 500);
            make(x, 1, 0, "20");
            due("RATE", x.base(0, 0, -1, 0, 1), 100);
            make(x, 3, 0, "99");
            due("TOP", x.base(0, 0, -1, 0, 1), 99);
            make(x, 2, 0, "1");
            due("NEED", x.base(0, 0, -1, 0, 1), 0);
            due("of another LAND: a later DOUBLE", x.base(0, 1, -1, 0, 1), 0);
            make(x, 14, 0, "1");
            due("DOUBLES", x.base(0, 1, -1, 0, 1), 300);
        });
        edge("made on a DAY, for DAYS from one on; in force on DAY d AS KNOWN on k: of LAND and USE those made on k or "
            + "ahead, for DAY d or an earlier one: the one made last", () -> {
            ReelBack x = studio();
            make(x, 1, 10, "1");
            x.days(5);
            make(x, 1, 8, "2");
            x.days(5);
            make(x, 1, 9, "3");
            make(x, 1, 11, "4");
            due("ahead of all", x.inForce(1, 7, 3599), NOT);
            due("made on DAY 5, not known", x.inForce(1, 8, 4), NOT);
            due("made on DAY 5", x.inForce(1, 8, 5), 1);
            due("made last of two", x.inForce(1, 10, 5), 1);
            due("the first alone is known", x.inForce(1, 10, 4), 0);
            due("for DAY 9", x.inForce(1, 9, 10), 2);
            due("for DAY 9, known by 9", x.inForce(1, 9, 9), 1);
            due("for DAY 10, not yet for 11", x.inForce(1, 10, 10), 2);
            due("for DAY 11: made last of a DAY's two", x.inForce(1, 11, 10), 3);
            due("its RATE", x.law(0, 0, 3599, 3599, 1), 4);
        });
        edge("Without any: 100, 30, 0, 99999999, 0", () -> {
            ReelBack x = studio();
            wage(x, 0, 0, 1000);
            draft(x, 0, 1, 0, 0);
            x.set(5, 1000);
            x.cost(1, 1000);
            due("COUNTS", x.counted(0, 0, 2), 1000);
            due("RATE", x.law(0, 0, 0, 0, 1), 30);
            due("NEED", x.law(0, 0, 0, 0, 2), 0);
            due("TOP", x.law(0, 0, 0, 0, 3), 99999999);
            due("DOUBLES", x.counted(1, 0, 2), 0);
        });
    }

    private static void termsOfTheTape() {
        edge("THE TAPE (at most 160 bytes)", () -> {
            ReelBack x = studio();
            for (int i = 1; i <= 40; i++) {
                due("feed", x.feed(4, '1' | '+' << 8 | 'k' << 16 | '+' << 24), 4 * i);
            }
            due("the 161st", x.feed(1, '1'), FULL);
            due("how many", x.count(8), 160);
            due("ends too early", x.text(0, 0), -260);
            feed(x, "12" + "+1".repeat(79));
            due("of 160", x.text(3, 0), 0);
            due("all of it", x.law(0, 0, 0, 0, 3), 12 + 79);
            make(x, 3, 0, "!k" + "+n".repeat(79));
            due("of 160, each a sign of its own", x.law(0, 0, 0, 0, 3), 1 + 2 * 79);
        });
        edge("LINES, one or more, parted by ;", () -> {
            faultAt("", 0);
            faultAt("1", -1);
            faultAt("1;2", -1);
            faultAt(";", 0);
            faultAt("1;", 2);
            faultAt("1;;2", 2);
            faultAt("1;".repeat(79) + "1", -1);
            says("0?1;".repeat(39) + "5", 5);
        });
        edge("LINE: E, or E ? E (what counts if the first is not 0)", () -> {
            says("7", 7);
            says("1?7", 7);
            says("2?7;8", 7);
            says("0-1?7;8", 7);
            says("0?7;8", 8);
            says("0|3?7;8", 7);
            says("1?0|3;8", 1);
            faultAt("1?2?3", 3);
            faultAt("?1", 0);
            faultAt("1?", 2);
        });
    }

    private static void termsOfSigns() {
        edge("E = A { | A }. A = B { & B }", () -> {
            says("1|0&0", 1);
            says("0&0|1", 1);
            says("0|0|5", 1);
            says("3&4&5", 1);
            says("3&0&5", 0);
            faultAt("|1", 0);
            faultAt("1||1", 2);
            faultAt("1&", 2);
        });
        edge("B = S, or S < S, S = S, S > S", () -> {
            says("1&2>1", 1);
            says("2>1&1", 1);
            says("3|1=2", 1);
            faultAt("1<2<3", 3);
            faultAt("1=2=3", 3);
            faultAt("1>2=3", 3);
            faultAt("1<2&2<3|1=1", -1);
            faultAt("(1<2)<3", -1);
            faultAt("1<", 2);
            faultAt("<1", 0);
        });
        edge("S = P { + P, - P }", () -> {
            says("2+1=3", 1);
            says("5<2+4", 1);
            says("9-3-2", 4);
            says("9-3+2", 8);
            faultAt("+1", 0);
            faultAt("-1", 0);
            faultAt("1+-1", 2);
        });
        edge("P = O { * O, / O, % O }", () -> {
            says("2+3*4", 14);
            says("2*3+4", 10);
            says("10-6/2", 7);
            says("9-5%3", 7);
            says("24/2/3", 4);
            says("17%10%4", 3);
            says("2*7%4", 2);
            says("7%4*2", 6);
            says("20/3*3", 18);
            faultAt("*1", 0);
            faultAt("1**1", 2);
            faultAt("1%", 2);
        });
        edge("O = a number (1 to 6 digits), a NAME, ! O, ( E )", () -> {
            says("0", 0);
            says("000009", 9);
            says("999999", 999999);
            faultAt("1000000", 6);
            faultAt("0000000", 6);
            faultAt("1+1234567", 8);
            faultAt("1n", 1);
            faultAt("n1", 1);
            faultAt("nn", 1);
            says("!5+1", 1);
            says("!0*5", 5);
            says("!!7", 1);
            says("!n", 0);
            says("(2+3)*4", 20);
            says("((5))", 5);
            says("!(1<2)", 0);
            says("(0|4)+1", 2);
            faultAt("()", 1);
            faultAt("(1;2)", 2);
            faultAt("(1?2)", 2);
            faultAt("1!2", 1);
            faultAt("1(2)", 1);
            faultAt(")", 0);
            faultAt("(1))", 3);
        });
        edge("No blanks", () -> {
            faultAt(" 1", 0);
            faultAt("1 ", 1);
            faultAt("1+ 1", 2);
            faultAt("1 ;1", 1);
            faultAt("1\n", 1);
        });
    }

    /** A LOT of 100 COINS, SORT 7, EPISODE 2 of four, spent in LAND 1 on DAY 1070, known by 1180; 11 POINTS; two LANDS. */
    private static ReelBack named(int house) {
        ReelBack x = new ReelBack();
        x.house(0);
        x.house(1);
        x.house(1);
        x.person(1);
        x.film(0, 4);
        years(x, 3);
        x.days(100);
        x.relate(0, 1);
        x.like(7, 1, 1070, 100);
        x.point(0, 1, 11);
        x.point(0, 0, 5);
        x.prove(0);
        x.prove(1);
        wage(x, 0, 0, 5);
        draft(x, 0, 1, 1070, house);
        x.set(1, 2);
        x.set(6, 7);
        x.cost(5, 100);
        return x;
    }

    private static void named(String name, int house, int want) {
        ReelBack x = named(house);
        make(x, 10, 0, name);
        due(name + " of HOUSE " + house, x.counted(1, 1180, 2), want);
    }

    private static void termsOfNames() {
        edge("NAMES: k KIND of the COST, s its SORT, c its COINS", () -> {
            named("k", 1, 5);
            named("s", 1, 7);
            named("c", 1, 100);
            named("c-9", 1, 91);
        });
        edge("l 1 if who gets it LIVES in the LAND on its DAY (a HOUSE: if it is of the LAND)", () -> {
            named("l+20", 1, 21);
            named("l+20", 2, 21);
            named("l+20", 0, 20);
            ReelBack x = named(0);
            make(x, 0, 0, "l+20");
            x.days(1);
            x.stay(0, 0, 1000, 1182);
            x.days(1);
            draft(x, 0, 0, 1181, 0);
            x.cost(1, 100);
            x.set(3, 1182);
            x.cost(1, 100);
            x.cost(4, 100);
            x.cost(6, 100);
            due("182 DAYS", x.counted(2, 1182, 2), 20);
            for (int cost = 3; cost <= 5; cost++) {
                due("183 DAYS", x.counted(cost, 1182, 2), 21);
                due("told by then", x.counted(cost, 1181, 2), 21);
                due("not told", x.counted(cost, 1180, 2), 20);
            }
        });
        edge("r 1 if that is RELATED, e its EPISODE", () -> {
            named("r+20", 1, 21);
            named("r+20", 2, 20);
            named("r+20", 0, 20);
            named("e", 1, 2);
            ReelBack x = named(0);
            make(x, 0, 0, "r+20");
            x.person(0);
            spend(x, 1, 0, 0, 1, 100);
            due("of a PERSON with a RELATED HOUSE's number", x.counted(2, 1180, 2), 20);
        });
        edge("y YEAR of the DAY d, p POINTS of the FILM there, n EPISODES of the FILM", () -> {
            named("y", 1, 2);
            named("p", 1, 11);
            named("n", 1, 4);
        });
        edge("j how many LANDS the FILM's COSTS are spent in", () -> {
            named("j", 1, 2);
            ReelBack x = studio();
            make(x, 3, 0, "j");
            due("none", x.law(0, 0, 0, 0, 3), 0);
            for (int land = 5; land >= 0; land--) {
                wage(x, 0, land, 5);
                wage(x, 0, land, 5);
                due("LANDS", x.law(0, 0, 0, 0, 3), 6 - land);
            }
            x.film(0, 1);
            due("of another FILM", x.law(0, 1, 0, 0, 3), 0);
        });
    }

    private static void termsOfNamesOfUses() {
        edge("A NAME that is not of the USE is 0 (k s c l r e of COUNTS; y p n j of all)", () -> {
            for (int use = 1; use <= 3; use++) {
                ReelBack x = named(1);
                make(x, 10, 0, "k");
                make(x, 10 + use, 0, "y*20+p+n+j");
                x.counted(1, 1180, 2);
                due("y p n j", x.law(1, 0, 1070, 1180, use), 57);
                make(x, 10 + use, 0, "k+s+c+l+r+e");
                due("COUNTED has them", x.counted(1, 1180, 2), 5);
                due("k s c l r e", x.law(1, 0, 1070, 1180, use), 0);
            }
            doublesBy("k|s|c|l|r|e", 0);
            doublesBy("y=2", 100);
            doublesBy("p=11", 100);
            doublesBy("n=4", 100);
            doublesBy("j=2", 100);
        });
        edge("At most 8 of ( ! are open at once", () -> {
            faultAt("((((((((1))))))))", -1);
            faultAt("(((((((((1)))))))))", 8);
            says("!!!!!!!!7", 1);
            faultAt("!!!!!!!!!7", 8);
            faultAt("!(!(!(!(1))))", -1);
            faultAt("!(!(!(!(!1))))", 8);
            says("!!!!!!!!0+!!!!!!!!0+((((((((3))))))))", 3);
            says("((((!1+((((3))))))))", 3);
            faultAt("((((!1+(((((3)))))))))", 11);
            says("!(((((((3)))))))", 0);
            faultAt("!((((((((3))))))))", 8);
            faultAt("1?((((((((3))))))));!!!!!!!!4", -1);
            faultAt("1?(((((((((3)))))))))", 10);
        });
    }

    /** COUNTED of a later DOUBLE in LAND 1 by an act of DOUBLES. */
    private static void doublesBy(String bytes, int want) {
        ReelBack x = named(1);
        x.set(4, 0);
        x.set(5, x.of(0, 7));
        x.cost(1, 100);
        make(x, 14, 0, bytes);
        due("a later DOUBLE by " + bytes, x.counted(2, 1180, 2), want);
    }

    private static void termsOfNumbers() {
        edge("Ints that wrap", () -> {
            says("65536*65536", 0);
            says("65536*32768<0", 1);
            says("65536*32768-1>0", 1);
            says("0-65536*32768<0", 1);
            says("65536*32768/(0-1)<0", 1);
            says("65536*32768%(0-1)=0", 1);
            says("999999*999999<0", 999999 * 999999 < 0 ? 1 : 0);
            says("999999*999999%99991+99991", 999999 * 999999 % 99991 + 99991);
            says("65535*65537+2", 1);
        });
        edge("/ and % toward 0, by 0 they give 0", () -> {
            says("7/2", 3);
            says("7%2", 1);
            says("(0-7)/2+10", 7);
            says("7/(0-2)+10", 7);
            says("(0-7)%2+10", 9);
            says("7%(0-2)", 1);
            says("5/0+3", 3);
            says("5%0+3", 3);
            says("0/0+3", 3);
            says("5/(n-3)+3", 3);
        });
        edge("| & < = > ! give 1, 0", () -> {
            String[] values = {"0", "5", "7", "(0-1)"};
            int[] number = {0, 5, 7, -1};
            for (int a = 0; a < 4; a++) {
                for (int b = 0; b < 4; b++) {
                    says(values[a] + "|" + values[b], a > 0 || b > 0 ? 1 : 0);
                    says("1+(" + values[a] + "&" + values[b] + ")", a > 0 && b > 0 ? 2 : 1);
                    says("1+(" + values[a] + "<" + values[b] + ")", number[a] < number[b] ? 2 : 1);
                    says("1+(" + values[a] + "=" + values[b] + ")", a == b ? 2 : 1);
                    says("1+(" + values[a] + ">" + values[b] + ")", number[a] > number[b] ? 2 : 1);
                }
                says("1+!" + values[a], a == 0 ? 2 : 1);
                says("1+(" + values[a] + "|0)", a == 0 ? 1 : 2);
            }
        });
        edge("all is worked out", () -> {
            says("1|5/0", 1);
            says("0&5%0", 0);
            says("1?4;5/0", 4);
            says("5/0?4;6", 6);
        });
    }

    private static void lineOf(String bytes, int line, int hundredths) {
        ReelBack x = studio();
        wage(x, 0, 0, 100);
        make(x, 0, 0, bytes);
        due("LINE of " + bytes, x.counted(0, 0, 3), line);
        due(bytes, x.counted(0, 0, 2), hundredths);
    }

    private static void termsOfLines() {
        edge("The first LINE without a first E, or whose first E is not 0, counts; none: 0 (LINE -1)", () -> {
            lineOf("40", 0, 40);
            lineOf("40;50", 0, 40);
            lineOf("1?40;50", 0, 40);
            lineOf("0?40;50;60", 1, 50);
            lineOf("0?40;2?50;60", 1, 50);
            lineOf("0?40;0-1?50;60", 1, 50);
            lineOf("0?40;0?50;60", 2, 60);
            lineOf("0?40;0?50;60;1?70", 2, 60);
            lineOf("0?40", -1, 0);
            lineOf("0?40;0?50;0?60", -1, 0);
            lineOf("1?0;50", 0, 0);
            lineOf("0;50", 0, 0);
            lineOf("0?1;".repeat(39) + "9", 39, 9);
            doublesBy("0?1", 0);
            doublesBy("0?1;1", 100);
            for (int use = 1; use <= 3; use++) {
                ReelBack x = studio();
                make(x, use, 0, "0?1;n=3?2");
                due("none for USE " + use, x.law(0, 0, 0, 0, use), 0);
            }
        });
    }

    private static void termsOfFaults() {
        edge("FAULT: the place (from 0) of the first byte with which no TEXT goes on", () -> {
            String first = DIGITS + NAMES;
            String next = BINARY + COMPARING + "?;";
            String[] asksOperand = {"", "1+", "k*", "1|", "1&", "1<", "1=", "1?", "1;", "1?k;", "!", "!!!!!!!"};
            for (int i = 0; i < asksOperand.length; i++) {
                everyByte(asksOperand[i], first, "!(");
            }
            everyByte("1", DIGITS, next);
            everyByte("12345", DIGITS, next);
            everyByte("123456", "", next);
            everyByte("k", "", next);
            everyByte("!1", DIGITS, next);
            everyByte("(1)", "", next);
            everyByte("1;1", DIGITS, next);
            everyByte("1?k", "", BINARY + COMPARING + ";");
            everyByte("1<k", "", BINARY + "?;");
            everyByte("1<1+k", "", BINARY + "?;");
            everyByte("1=1&k", "", next);
            everyByte("1>1?k", "", BINARY + COMPARING + ";");
            everyByte("1<1?1<k", "", BINARY + ";");
            everyByte("(1<1)", "", next);
            everyByte("(", "", first + "!(");
            everyByte("(1", ")", DIGITS + BINARY + COMPARING);
            everyByte("(1<k", ")", BINARY);
            everyByte("((1)", ")", BINARY + COMPARING);
            everyByte("1<(k", ")", BINARY + COMPARING);
            everyByte("!!!!!!!!", first, "");
            everyByte("((((((((", "", first);
        });
        edge("the length, if it ends too early", () -> {
            faultAt("", 0);
            faultAt("!", 1);
            faultAt("(", 1);
            faultAt("(1", 2);
            faultAt("((1)", 4);
            faultAt("1+", 2);
            faultAt("1?", 2);
            faultAt("1;", 2);
            faultAt("1?1;", 4);
            faultAt("1+".repeat(80), 160);
            faultAt("(" + "1+1+".repeat(39) + "1+1", 160);
            faultAt("1+".repeat(79) + "1 ", 159);
        });
    }

    private static void termsOfBounds() {
        edge("COUNTS and RATE are held within 0 .. 100", () -> {
            String[] texts = {"0-1", "0", "1", "99", "100", "101", "65536*32768", "65536*32768-1"};
            int[] want = {0, 0, 1, 99, 100, 100, 0, 100};
            for (int i = 0; i < texts.length; i++) {
                lineOf(texts[i], 0, want[i]);
                ReelBack x = studio();
                make(x, 1, 0, texts[i]);
                due("RATE " + texts[i], x.law(0, 0, 0, 0, 1), want[i]);
            }
        });
        edge("NEED, TOP within 0 .. 99999999", () -> {
            String[] texts = {"0-1", "0", "1", "9999*10000+9998", "9999*10000+9999", "10000*10000", "65536*32768",
                "65536*32768-1"};
            int[] want = {0, 0, 1, 99999998, 99999999, 99999999, 0, 99999999};
            for (int i = 0; i < texts.length; i++) {
                says(texts[i], want[i]);
                ReelBack x = studio();
                make(x, 2, 0, texts[i]);
                due("NEED " + texts[i], x.law(0, 0, 0, 0, 2), want[i]);
            }
        });
    }

    private static void termsOfCounted() {
        edge("COUNTED of a COST in a LAND AS KNOWN on k: 0 if it is not spent there", () -> {
            ReelBack x = studio();
            wage(x, 0, 3, 1000);
            for (int land = 0; land <= 5; land++) {
                due("LAND " + land, x.base(0, land, -1, 0, 0), land == 3 ? 1000 : 0);
            }
        });
        edge("or is a later DOUBLE whose LAND's DOUBLES (on its DAY) gives 0", () -> {
            ReelBack x = studio();
            x.film(0, 1);
            x.days(20);
            wage(x, 0, 0, 100);
            draft(x, 1, 0, 9, 0);
            x.set(5, 1000);
            x.cost(1, 100);
            x.set(3, 10);
            x.cost(1, 100);
            make(x, 4, 10, "0-1");
            due("on DAY 9", x.counted(1, 20, 2), 0);
            due("on DAY 10: not 0, below it", x.counted(2, 20, 2), 100);
            due("not known", x.counted(2, 19, 2), 0);
            due("the first", x.counted(0, 20, 2), 100);
            make(x, 4, 0, "0");
            due("gives 0", x.counted(2, 20, 2), 0);
            make(x, 4, 0, "1");
            due("gives 1", x.counted(1, 20, 2), 100);
        });
        edge("else FAIR times COIN of the LAND on its DAY / 1000 (cut) times COUNTS (on its DAY) / 100 (cut)", () -> {
            ReelBack x = studio();
            x.days(20);
            x.coin(0, 10, 1999);
            make(x, 0, 11, "67");
            draft(x, 0, 0, 9, 0);
            x.cost(1, 3);
            x.set(3, 10);
            x.cost(1, 3);
            x.set(3, 11);
            x.cost(1, 3);
            due("on DAY 9", x.counted(0, 20, 2), 3);
            due("on DAY 10: 5.997", x.counted(1, 20, 2), 5);
            due("on DAY 11: 5 * 0.67 = 3.35", x.counted(2, 20, 2), 3);
            due("FAIR is in coins of the LAND", x.counted(2, 20, 0), 3);
        });
    }

    private static void termsOfBase() {
        edge("BASE of a FILM (or of one EPISODE) in a LAND: the sum over its COSTS, held at 1999999999", () -> {
            ReelBack x = studio();
            due("no COSTS", x.base(0, 0, -1, 0, 0), 0);
            x.coin(0, 0, 99999);
            due("the last", wages(x, 0, 0, 99999, 150), 149);
            due("the greatest that can be", x.base(0, 0, -1, 0, 0), 150 * 9999800);
            due("of one EPISODE", x.base(0, 0, 0, 0, 0), 150 * 9999800);
            due("of the other", x.base(0, 0, 1, 0, 0), 0);
            ReelBack y = studio();
            make(y, 0, 0, "50");
            wages(y, 0, 0, 3, 5);
            due("each is cut by itself", y.base(0, 0, -1, 0, 0), 5);
        });
    }

    private static void termsOfDue() {
        edge("DUE: BASE times RATE / 100 (cut), TOP at most", () -> {
            ReelBack x = studio();
            wage(x, 0, 0, 1003);
            due("300.9", x.base(0, 0, -1, 0, 1), 300);
            make(x, 3, 0, "301");
            due("TOP 301", x.base(0, 0, -1, 0, 1), 300);
            make(x, 3, 0, "300");
            due("TOP 300", x.base(0, 0, -1, 0, 1), 300);
            make(x, 3, 0, "299");
            due("TOP 299", x.base(0, 0, -1, 0, 1), 299);
            make(x, 3, 0, "0");
            due("TOP 0", x.base(0, 0, -1, 0, 1), 0);
            ReelBack y = studio();
            y.coin(0, 0, 99999);
            wages(y, 0, 0, 99999, 150);
            make(y, 1, 0, "6");
            due("1499970000 * 6 is no int", y.base(0, 0, -1, 0, 1), 89998200);
            make(y, 1, 0, "7");
            due("104997900", y.base(0, 0, -1, 0, 1), 99999999);
            make(y, 1, 0, "100");
            due("1499970000", y.base(0, 0, -1, 0, 1), 99999999);
            make(y, 1, 0, "0");
            due("RATE 0", y.base(0, 0, -1, 0, 1), 0);
        });
        edge("0, if POINTS are less than NEED (all three of DAY k)", () -> {
            ReelBack x = studio();
            wage(x, 0, 0, 1000);
            x.point(0, 0, 5);
            x.prove(0);
            make(x, 2, 0, "5");
            due("5 of 5", x.base(0, 0, -1, 0, 1), 300);
            make(x, 2, 0, "6");
            due("5 of 6", x.base(0, 0, -1, 0, 1), 0);
            make(x, 2, 0, "4");
            due("5 of 4", x.base(0, 0, -1, 0, 1), 300);
            make(x, 1, 10, "20");
            make(x, 3, 20, "70");
            make(x, 2, 30, "6");
            int[] days = {9, 10, 19, 20, 29, 30};
            int[] want = {300, 200, 200, 70, 70, 0};
            for (int i = 0; i < days.length; i++) {
                due("of DAY " + days[i], x.base(0, 0, -1, days[i], 1), want[i]);
            }
        });
    }

    // ---- promises

    private static void feeding() {
        promise(22);
        edge("n (1 .. 4) bytes come to THE TAPE, the lowest of v first: how many it has", () -> {
            ReelBack x = studio();
            due("0", x.feed(0, '1'), NONE);
            due("5", x.feed(5, '1'), NONE);
            due("-1", x.feed(-1, '1'), NONE);
            due("MAX", x.feed(MAX, '1'), NONE);
            due("1 of four", x.feed(1, '9' | '8' << 8 | '7' << 16 | '6' << 24), 1);
            due("2 of four", x.feed(2, '-' | '5' << 8 | '7' << 16 | '6' << 24), 3);
            due("3 of four", x.feed(3, '*' | '2' << 8 | '+' << 16 | '6' << 24), 6);
            due("4", x.feed(4, '1' | '0' << 8 | '0' << 16 | '0' << 24), 10);
            x.text(3, 0);
            due("9-5*2+1000", x.law(0, 0, 0, 0, 3), 999);
            due("bytes above 127", x.feed(4, -1), 4);
            due("byte 255", x.text(0, 0), -100);
        });
        edge("NONE, FULL", () -> {
            ReelBack x = new ReelBack();
            for (int i = 0; i < 39; i++) {
                x.feed(4, 0);
            }
            due("157", x.feed(1, 0), 157);
            due("161", x.feed(4, 0), FULL);
            due("as before", x.count(8), 157);
            due("160", x.feed(3, 0), 160);
            due("161", x.feed(1, 0), FULL);
            due("n 0 though full", x.feed(0, 0), NONE);
            due("n 5 though full", x.feed(5, 0), NONE);
            x.text(0, 0);
            due("empty again", x.feed(4, 0), 4);
        });
    }

    private static void text() {
        promise(23);
        edge("THE TAPE becomes a TEXT (what: 10 times LAND, and USE), made TODAY, for DAYS from one on (0 .. 3599), and is "
            + "empty then: its number (0 .. 19)", () -> {
            ReelBack x = studio();
            x.days(7);
            for (int i = 0; i < 20; i++) {
                int what = i % 6 * 10 + i % 5;
                due("text", make(x, what, i == 0 ? 3599 : i == 1 ? 0 : 7, "1"), i);
                due("empty then", x.count(8), 0);
                due("made TODAY", x.inForce(what, 3599, 7), i);
                due("not ahead", x.inForce(what, 3599, 6), NOT);
            }
            due("for DAY 3599", x.inForce(0, 3599, 7), 0);
            due("not ahead of it", x.inForce(0, 3598, 7), NOT);
            due("for DAY 0", x.inForce(11, 0, 7), 1);
        });
        edge("-100 less the FAULT", () -> {
            ReelBack x = new ReelBack();
            due("of none", x.text(0, 0), -100);
            due("of the third byte", make(x, 0, 0, "1+ 1"), -102);
            due("empty then", x.count(8), 0);
            due("no TEXT", x.count(7), 0);
            due("the next one's number", make(x, 0, 0, "1"), 0);
            due("of the last byte", make(x, 0, 0, "1+".repeat(79) + "1 "), -259);
            due("of the end", make(x, 0, 0, "1+".repeat(80)), -260);
        });
        edge("NONE, FULL (THE TAPE stays)", () -> {
            ReelBack x = studio();
            feed(x, "77");
            int[] none = {-1, -10, 5, 6, 9, 15, 55, 59, 60, 64, MIN, MAX};
            for (int i = 0; i < none.length; i++) {
                due("what " + none[i], x.text(none[i], 0), NONE);
            }
            due("from -1", x.text(3, -1), NONE);
            due("from 3600", x.text(3, 3600), NONE);
            due("stays", x.count(8), 2);
            due("as it was", x.text(3, 0), 0);
            due("as it was", x.law(0, 0, 0, 0, 3), 77);
            for (int i = 1; i < 20; i++) {
                make(x, 0, 0, "1");
            }
            feed(x, "5");
            due("full", x.text(0, 0), FULL);
            due("what 5 though full", x.text(5, 0), NONE);
            due("from 3600 though full", x.text(0, 3600), NONE);
            due("stays", x.count(8), 1);
            feed(x, "+");
            due("full, whatever is on it", x.text(0, 0), FULL);
            due("stays", x.count(8), 2);
            due("how many", x.count(7), 20);
        });
        edge("NONE", () -> {
            ReelBack x = new ReelBack();
            due("what -1 though empty", x.text(-1, 0), NONE);
            due("from 3600 though empty", x.text(0, 3600), NONE);
            feed(x, "+");
            due("what 60 though a FAULT", x.text(60, 0), NONE);
            due("stays", x.text(54, 0), -100);
        });
    }

    private static void inForce() {
        promise(24);
        edge("The TEXT in force on DAY d AS KNOWN on k; NOT: none", () -> {
            ReelBack x = new ReelBack();
            due("no TEXTS", x.inForce(0, 3599, 3599), NOT);
            x.days(3);
            make(x, 54, 9, "1");
            due("on DAY 9 by 3", x.inForce(54, 9, 3), 0);
            due("on DAY 8", x.inForce(54, 8, 3), NOT);
            due("by 2", x.inForce(54, 9, 2), NOT);
            due("another USE", x.inForce(53, 9, 3), NOT);
            due("another LAND", x.inForce(44, 9, 3), NOT);
        });
        edge("NONE", () -> {
            ReelBack x = new ReelBack();
            make(x, 0, 0, "1");
            int[] none = {-1, -10, 5, 9, 15, 55, 60, MIN, MAX};
            for (int i = 0; i < none.length; i++) {
                due("what " + none[i], x.inForce(none[i], 0, 0), NONE);
            }
            due("d -1", x.inForce(0, -1, 0), NONE);
            due("d 3600", x.inForce(0, 3600, 0), NONE);
            due("k -1", x.inForce(0, 0, -1), NONE);
            due("k 3600", x.inForce(0, 0, 3600), NONE);
            due("what 4", x.inForce(4, 3599, 3599), NOT);
        });
    }

    private static void law() {
        promise(25);
        edge("RATE (what 1), NEED (2), TOP (3) of a LAND for a FILM on DAY d AS KNOWN on k", () -> {
            ReelBack x = studio();
            x.film(0, 9);
            x.days(2);
            for (int use = 1; use <= 3; use++) {
                make(x, 20 + use, 5, "n+" + use + "0");
                due("USE " + use, x.law(2, 0, 5, 2, use), 2 + 10 * use);
                due("for another FILM", x.law(2, 1, 5, 2, use), 9 + 10 * use);
                int first = use == 1 ? 30 : use == 2 ? 0 : 99999999;
                due("on DAY 4", x.law(2, 0, 4, 2, use), first);
                due("by 1", x.law(2, 0, 5, 1, use), first);
                due("of another LAND", x.law(3, 0, 5, 2, use), first);
            }
        });
        edge("NONE", () -> {
            ReelBack x = studio();
            due("what 0", x.law(0, 0, 0, 0, 0), NONE);
            due("what 4", x.law(0, 0, 0, 0, 4), NONE);
            due("what -1", x.law(0, 0, 0, 0, -1), NONE);
            due("FILM 1 is none", x.law(0, 1, 0, 0, 1), NONE);
            due("FILM -1", x.law(0, -1, 0, 0, 1), NONE);
            due("FILM 20", x.law(0, 20, 0, 0, 1), NONE);
            due("LAND 6", x.law(6, 0, 0, 0, 1), NONE);
            due("d -1", x.law(0, 0, -1, 0, 1), NONE);
            due("d 3600", x.law(0, 0, 3600, 0, 1), NONE);
            due("k -1", x.law(0, 0, 0, -1, 1), NONE);
            due("k 3600", x.law(0, 0, 0, 3600, 1), NONE);
        });
    }
}
