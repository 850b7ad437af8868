/** Promises 27 to 30 at their edges (section 5), a sentence at a time. */
public final class PriceEdgeTest extends Edges {
    public static void main(String[] args) {
        feedNumbers();
        feedLowestFirst();
        tapeIsFull();
        priceNumbers();
        tapeIsEmptyThen();
        thirtyPrices();
        faultAtTheEnd();
        faultOfTheFirstByte();
        faultOfDigits();
        faultOfOperands();
        faultOfComparisons();
        faultOfClauses();
        faultOfParentheses();
        textsOfTheLongestTape();
        inForceNumbers();
        inForceFromANight();
        inForceAsKnown();
        inForceMadeLast();
        withoutAny();
        givesNumbers();
        givesOfParties();
        countsWithinItsEnds();
        paidWithinItsEnds();
        intsWrap();
        divisions();
        clauses();
        headsAndCrowd();
        minutesAndNights();
        rainSinceItCame();
        slicesOfAnOrder();
        refundOfWhoGoes();
        CHECK.finish();
    }

    /** 27: "n (1 .. 4) bytes". */
    private static void feedNumbers() {
        story().feed("p+")
            .bounds("27 n (1 .. 4)", 1, 4, BAD, v -> x -> x.feed(v, '1'))
            .due("27 how many it has", 6, x -> x.feed(4, 0))
            .due("27 any bytes", 10, x -> x.feed(4, -1))
            .due("27 one", 11, x -> x.feed(1, LEAST_INT));
    }

    /** 27: "the lowest of v first". */
    private static void feedLowestFirst() {
        garden().with(x -> x.enter(0, 1), x -> x.feed(4, 0x34333231), x -> x.price(0, 0))
            .due("27 1234", 1234, x -> x.gives(0, 0, 0))
            .with(x -> x.feed(1, 0x34333231), x -> x.feed(2, 0x34333235), x -> x.price(0, 0))
            .due("27 only n of them", 152, x -> x.gives(1, 0, 0))
            .with(x -> x.feed(3, 0xff333231), x -> x.price(0, 0))
            .due("27 none above n", 123, x -> x.gives(2, 0, 0))
            .with(x -> x.feed(2, 0xb131), x -> x.price(0, 0))
            .due("27 a byte above 127 is none of a text", -101, x -> fed(x, 2, 0xb131));
    }

    private static int fed(PleasureGarden x, int n, int v) {
        x.feed(n, v);
        return x.price(0, 0);
    }

    /** "THE TAPE (at most 120 bytes)". */
    private static void tapeIsFull() {
        story().feed("1+".repeat(58))
            .due("27 116", 116, x -> x.count(11))
            .due("27 117", 117, x -> x.feed(1, '1'))
            .refuses("27 121", FULL, x -> x.feed(4, 0x31313131))
            .refuses("27 BAD is named ahead of FULL", BAD, x -> x.feed(5, 0), x -> x.feed(0, 0), x -> x.feed(MOST_INT, 0))
            .due("27 to its end", 120, x -> x.feed(3, '-' | '1' << 8 | '2' << 16))
            .refuses("27 one more", FULL, x -> x.feed(1, '1'), x -> x.feed(2, '1'), x -> x.feed(4, '1'))
            .refuses("27 BAD is named ahead of FULL", BAD, x -> x.feed(5, 0), x -> x.feed(-1, 0))
            .with(x -> x.close())
            .due("27 it stays", 120, x -> x.count(11))
            .due("28 all of it is a price", 0, x -> x.price(0, 0))
            .due("27 room again", 4, x -> x.feed(4, 0));
    }

    /** "TEXTS of a KIND: 0 .. 1 .. 2"; 28: "from a NIGHT (0 .. 199)". */
    private static void priceNumbers() {
        garden().feed("p*2")
            .bounds("28 KIND 0, 1, 2", 0, 2, BAD, v -> x -> x.price(v, 0))
            .bounds("28 a NIGHT (0 .. 199)", 0, 199, BAD, v -> x -> x.price(0, v))
            .refuses("28 neither", BAD, x -> x.price(3, 200), x -> x.price(-1, -1));
        story().feed("p*")
            .refuses("28 BAD, whatever is on the tape", BAD, x -> x.price(3, 0), x -> x.price(0, -1));
        story().refuses("28 BAD, though the tape is empty", BAD, x -> x.price(3, 0), x -> x.price(0, 200));
    }

    /** 28: "THE TAPE is empty then". */
    private static void tapeIsEmptyThen() {
        story().feed("12+34")
            .due("28 a price", 0, x -> x.price(0, 0))
            .due("28 then it is empty", 0, x -> x.count(11))
            .feed("12+")
            .due("28 a fault", -103, x -> x.price(0, 0))
            .due("28 then it is empty, too", 0, x -> x.count(11))
            .due("28 no price was made", 1, x -> x.count(8))
            .refuses("28 nothing is on it", -100, x -> x.price(0, 0))
            .feed("5")
            .due("28 nothing of it is left", 1, x -> x.price(0, 0));
    }

    /** 28: "its number (0 .. 29)". */
    private static void thirtyPrices() {
        Story s = garden().with(x -> x.enter(0, 1));
        for (int i = 0; i < 30; i++) {
            int number = i;
            s.feed("" + (number + 50)).due("28 PRICE " + number, number, x -> x.price(number % 3, number));
        }
        s.refuses("28 the 31st, with nothing on the tape", FULL, x -> x.price(0, 0));
        s.feed("7").refuses("28 the 31st: the tape stays", FULL, x -> x.price(0, 0), x -> x.price(2, 199));
        s.feed("+").refuses("28 the 31st, whatever is on the tape", FULL, x -> x.price(0, 0));
        s.refuses("28 BAD is named ahead of FULL", BAD, x -> x.price(3, 0), x -> x.price(0, 200));
        s.due("27 the tape still takes bytes", 3, x -> x.feed(1, '9'));
        for (int i = 0; i < 30; i++) {
            int number = i;
            s.due("30 PRICE " + number, number + 50, x -> x.gives(number, 0, 0));
        }
        s.due("29 the last one", 29, x -> x.inForce(2, 29, 0));
    }

    /** No fault is told as -1 here: then the text is made a price. */
    private static void fault(String text, int place) {
        story().feed(text)
            .due("28 fault of " + text, place < 0 ? 0 : -100 - place, x -> x.price(0, 0))
            .due("28 prices behind " + text, place < 0 ? 1 : 0, x -> x.count(8))
            .due("28 tape behind " + text, 0, x -> x.count(11));
    }

    /** "the length, if it ends too early". */
    private static void faultAtTheEnd() {
        String[] unfinished = {"", "1+", "1-", "1*", "1/", "1<", "1=", "1>", "1:", "1;", "(", "(1", "(1+", "((1)", "1:2;",
            "1:2;3:", "1<(2", "p*(", "((((((((1)))))))", "(1<2"};
        for (String text : unfinished) {
            fault(text, text.length());
        }
    }

    /** "the place (from 0) of the first byte with which no TEXT goes on": at the beginning of an operand. */
    private static void faultOfTheFirstByte() {
        for (int sign = 0; sign < 256; sign++) {
            boolean begins = sign == '(' || sign >= '0' && sign <= '9' || "pmrngsct".indexOf(sign) >= 0;
            if (!begins) {
                fault("" + (char) sign, 0);
                fault("1+" + (char) sign + "1", 2);
                fault("1:" + (char) sign, 2);
                fault("1;" + (char) sign, 2);
                fault("(" + (char) sign, 1);
            }
            boolean goesOn = sign >= '0' && sign <= '9' || "+-*/<=>:;".indexOf(sign) >= 0;
            if (!goesOn) {
                fault("1" + (char) sign, 1);
            }
            if (!goesOn || sign >= '0' && sign <= '9') {
                fault("p" + (char) sign, 1);
                fault("(1)" + (char) sign, 3);
            }
        }
        fault("1+2 ", 3);
        fault(" 1", 0);
        fault("1 +2", 1);
    }

    /** "a number (1 to 5 digits)". */
    private static void faultOfDigits() {
        fault("1", -1);
        fault("12345", -1);
        fault("123456", 5);
        fault("99999", -1);
        fault("00000", -1);
        fault("000000", 5);
        fault("p+123456", 7);
        fault("(123456)", 6);
        fault("12345+12345", -1);
    }

    /** "S = P { + P, - P }. P = O { * O, / O }. O = a number, a NAME, ( E )". */
    private static void faultOfOperands() {
        fault("1++1", 2);
        fault("1+-1", 2);
        fault("-1", 0);
        fault("+1", 0);
        fault("1**1", 2);
        fault("1*/1", 2);
        fault("pm", 1);
        fault("2p", 1);
        fault("p2", 1);
        fault("2(3)", 1);
        fault("(2)3", 3);
        fault("(2)(3)", 3);
        fault("p(", 1);
        fault("p+m-r*n/g", -1);
        fault("s*c/t+(p)", -1);
    }

    /** "E = S, or S < S, S = S, S > S". */
    private static void faultOfComparisons() {
        fault("1<2", -1);
        fault("1=2", -1);
        fault("1>2", -1);
        fault("1<2<3", 3);
        fault("1<2=3", 3);
        fault("1>2>3", 3);
        fault("1+1=2*3-1", -1);
        fault("1<=2", 2);
        fault("1<>2", 2);
        fault("1==2", 2);
        fault("(1<2)<3", -1);
        fault("(1<2)=(3>4)", -1);
        fault("(1<2<3)", 4);
        fault("1<(2<3)", -1);
        fault("1<2+3<4", 5);
        fault("1<2:3>4;5=6", -1);
    }

    /** "CLAUSES, one or more, parted by ; . CLAUSE: E, or E : E". */
    private static void faultOfClauses() {
        fault("1;2", -1);
        fault("1:2", -1);
        fault("1:2;3:4;5", -1);
        fault("1:2:3", 3);
        fault("1;2:3:4", 5);
        fault(";", 0);
        fault(";1", 0);
        fault("1;;2", 2);
        fault(":1", 0);
        fault("1::2", 2);
        fault("1:;2", 2);
        fault("1;:2", 2);
        fault("(1:2)", 2);
        fault("(1;2)", 2);
        fault("(1):(2);(3)", -1);
        fault("1<2<3:4", 3);
    }

    /** "at most 8 ( are open at once". */
    private static void faultOfParentheses() {
        fault("()", 1);
        fault(")", 0);
        fault("1)", 1);
        fault("(1))", 3);
        fault("((((((((1))))))))", -1);
        fault("(((((((((1)))))))))", 8);
        fault("((((((((((", 8);
        fault("((((((((1))))))))+((((((((1))))))))", -1);
        fault("((((((((1)))))))+(1))", -1);
        fault("(((((((1)+(((1))))))))", 12);
        fault("(((((((1)+((1))))))))", -1);
        fault("((((((((1)+((1))))))))", 12);
        fault("1;((((((((1))))))));(((((((((1)))))))))", 28);
        fault("1<((((((((1))))))))", -1);
        fault("1:(((((((((", 10);
    }

    private static void textsOfTheLongestTape() {
        fault("p" + "+p".repeat(59), -1);
        fault("12" + ";p".repeat(59), -1);
        fault("p" + "+p".repeat(58) + "+1p", 119);
        fault("12" + ";p".repeat(58) + ";+", 119);
        fault("12" + ";p".repeat(58) + "p+", 118);
        fault("1" + "+p".repeat(59) + "-", 120);
        fault("(p" + "+p".repeat(59), 120);
        garden().with(x -> x.enter(0, 7)).price(0, 0, "12" + "+p".repeat(59))
            .due("30 all its bytes count", 12 + 59 * 7, x -> x.gives(0, 0, 0));
        garden().with(x -> x.enter(0, 7)).price(0, 0, "00" + ":p;0".repeat(28) + ":p;1:9")
            .due("30 to the last clause", 9, x -> x.gives(0, 0, 0));
    }

    /** 29: "BAD": a KIND 0 .. 2, NIGHTS 0 .. 199. */
    private static void inForceNumbers() {
        story().price(0, 0, "1").price(1, 0, "2").price(2, 0, "3")
            .bounds("29 KIND 0, 1, 2", 0, 2, BAD, v -> x -> x.inForce(v, 0, 0))
            .bounds("29 on a NIGHT (0 .. 199)", 0, 199, BAD, v -> x -> x.inForce(0, v, 0))
            .bounds("29 AS KNOWN on a NIGHT (0 .. 199)", 0, 199, BAD, v -> x -> x.inForce(0, 0, v));
        story().refuses("29 BAD, though there is none", BAD, x -> x.inForce(3, 0, 0), x -> x.inForce(0, 200, 0),
            x -> x.inForce(0, 0, 200), x -> x.inForce(-1, 0, 0), x -> x.inForce(0, -1, 0), x -> x.inForce(0, 0, -1));
    }

    /** "in force from that NIGHT or an earlier one". */
    private static void inForceFromANight() {
        story().price(0, 5, "1")
            .due("29 a night ahead", NOT, x -> x.inForce(0, 4, 199))
            .due("29 from that night", 0, x -> x.inForce(0, 5, 199))
            .due("29 and later", 0, x -> x.inForce(0, 199, 199))
            .due("29 of its kind", NOT, x -> x.inForce(1, 5, 199))
            .price(2, 199, "1")
            .due("29 from the last night", 1, x -> x.inForce(2, 199, 0))
            .due("29 not ahead of it", NOT, x -> x.inForce(2, 198, 0));
    }

    /** "those made on NIGHT k or ahead". */
    private static void inForceAsKnown() {
        story(x -> x.close(), x -> x.close()).price(0, 0, "1")
            .due("29 as known a night ahead", NOT, x -> x.inForce(0, 2, 1))
            .due("29 as known on that night", 0, x -> x.inForce(0, 2, 2))
            .due("29 as known later", 0, x -> x.inForce(0, 2, 199))
            .due("29 for a night that was", 0, x -> x.inForce(0, 0, 2))
            .with(x -> x.close()).price(0, 0, "2")
            .due("29 the later one", 1, x -> x.inForce(0, 0, 3))
            .due("29 not known yet", 0, x -> x.inForce(0, 3, 2));
    }

    /** "the one made last". */
    private static void inForceMadeLast() {
        story().price(0, 3, "1").price(0, 1, "2").price(1, 0, "3")
            .due("29 not the one in force last", 1, x -> x.inForce(0, 3, 0))
            .due("29 on the night ahead of that", 1, x -> x.inForce(0, 2, 0))
            .price(0, 3, "4")
            .due("29 made in the same night", 3, x -> x.inForce(0, 3, 0))
            .due("29 ahead of it", 1, x -> x.inForce(0, 2, 0))
            .due("29 none at all", NOT, x -> x.inForce(0, 0, 0));
    }

    /** "Without any 0." */
    private static void withoutAny() {
        garden().price(0, 1, "5").price(1, 1, "6").price(2, 1, "7")
            .with(x -> x.box(0, 9), x -> x.enter(0, 2), x -> x.let(0, 0), x -> x.ham(99), x -> x.order(0, 1))
            .with(x -> x.minutes(1))
            .due("30 entry and slices", 0, x -> x.party(0, 6))
            .due("30 refund", 0, x -> x.leave(0))
            .due("31 takings", 0, x -> x.close())
            .with(x -> x.enter(0, 2))
            .due("30 in force from this night", 5, x -> x.party(0, 6))
            .with(x -> x.let(0, 0), x -> x.order(0, 1), x -> x.minutes(1))
            .due("30 slices, too", 11, x -> x.party(0, 6))
            .due("30 and the refund", 7, x -> x.leave(0))
            .due("31 takings, less the refund", 4, x -> x.close());
    }

    /** 30: "with so many SLICES (0 .. 99)"; "VOID: BAD". */
    private static void givesNumbers() {
        garden().price(0, 199, "s+1").price(2, 0, "s").with(x -> x.enter(0, 3), x -> x.enter(1, 3))
            .bounds("30 SLICES (0 .. 99)", 0, 99, VOID, v -> x -> x.gives(0, 0, v))
            .bounds("30 a price", 0, 1, VOID, v -> x -> x.gives(v, 0, 5))
            .bounds("30 a party", 0, 1, VOID, v -> x -> x.gives(0, v, 5))
            .refuses("30 none of them", VOID, x -> x.gives(2, 2, 100), x -> x.gives(-1, -1, -1))
            .due("30 not in force yet", 8, x -> x.gives(0, 0, 7))
            .due("30 nothing is paid", 0, x -> x.count(14));
    }

    private static void givesOfParties() {
        garden().price(0, 0, "t*100+c").with(x -> x.enter(0, 3), x -> x.enter(1, 4), x -> x.minutes(2))
            .due("30 of one that is in", 207, x -> x.gives(0, 0, 0))
            .with(x -> x.leave(0), x -> x.minutes(1))
            .due("30 of one that is out: its heads are not in", 304, x -> x.gives(0, 0, 0))
            .with(x -> x.close())
            .refuses("30 of none of another night", VOID, x -> x.gives(0, 0, 0));
    }

    private static void value(String text, int want) {
        garden().with(x -> x.enter(0, 7)).price(1, 0, text).due("30 " + text, want, x -> x.gives(0, 0, 5));
    }

    /** "What one gives counts as 0 at least, 100000 at most." */
    private static void countsWithinItsEnds() {
        value("0", 0);
        value("1", 1);
        value("0-1", 0);
        value("0-99999", 0);
        value("99999", 99999);
        value("99999+1", 100000);
        value("99999+2", 100000);
        value("99999*9", 100000);
        value("0-1+2", 1);
        value("99999+99999-99999", 99999);
        value("0-1:3", 3);
    }

    private static void paidWithinItsEnds() {
        garden().price(0, 0, "99999*2").price(1, 0, "99999*3").price(2, 0, "99999*4").with(x -> x.box(0, 9))
            .with(x -> x.enter(0, 1), x -> x.let(0, 0), x -> x.ham(99), x -> x.order(0, 1))
            .due("30 entry", 100000, x -> x.party(0, 6))
            .with(x -> x.minutes(1))
            .due("30 and slices", 200000, x -> x.party(0, 6))
            .due("30 refund", 100000, x -> x.leave(0))
            .due("37 takings", 100000, x -> x.count(14));
        garden().price(0, 0, "0-5").price(1, 0, "0-6").price(2, 0, "0-7").with(x -> x.box(0, 9))
            .with(x -> x.enter(0, 1), x -> x.let(0, 0), x -> x.ham(99), x -> x.order(0, 1), x -> x.minutes(1))
            .due("30 nothing is paid", 0, x -> x.party(0, 6))
            .due("30 nothing is given back", 0, x -> x.leave(0))
            .due("37 nothing is taken", 0, x -> x.count(14));
    }

    /** "Ints that wrap". */
    private static void intsWrap() {
        value("65536*32767+65535", 100000);
        value("65536*32767+65535+1", 0);
        value("65536*32767+65535+1<0", 1);
        value("0-65536*32768-1", 100000);
        value("0-65536*32768-1>0", 1);
        value("46340*46340", 100000);
        value("46341*46341", 0);
        value("65536*65536", 0);
        value("65536*65536+9", 9);
        value("65536*32768*2+1", 1);
        // 9999800001 wraps to 1409865409.
        value("99999*99999-65536*21512", 54977);
        value("0-65536*32768=65536*32768", 1);
    }

    /** "/ towards 0, by 0 it gives 0". */
    private static void divisions() {
        value("7/2", 3);
        value("(0-7)/2+9", 6);
        value("7/(0-2)+9", 6);
        value("(0-7)/(0-2)", 3);
        value("1/2", 0);
        value("(0-1)/2+9", 9);
        value("7/0", 0);
        value("0/0", 0);
        value("7/0+5", 5);
        value("5+7/(p-7)", 5);
        value("7/0*3+1", 1);
        value("65536*32768/(0-1)", 0);
        value("65536*32768/(0-1)=65536*32768", 1);
        value("99999/1", 99999);
        value("8/4/2", 1);
        value("8/4*2", 4);
        value("8*3/5", 4);
        value("8-4-2", 2);
        value("8-4*2", 0);
        value("(8-4)*2", 8);
    }

    /** "what its first CLAUSE gives that has no TEST, or one that is not 0; 0 if none". */
    private static void clauses() {
        value("1:5;6", 5);
        value("0:5;6", 6);
        value("0-1:5;6", 5);
        value("0:5", 0);
        value("0:5;0:6", 0);
        value("0:5;0:6;7", 7);
        value("0;6", 0);
        value("1:0;6", 0);
        value("3;1:6", 3);
        value("2<1:5;2=2:8;9", 8);
        value("2>1", 1);
        value("1>1", 0);
        value("1<1", 0);
        value("1=1", 1);
        value("1<2", 1);
        value("2=1", 0);
        value("0:1;1:2<1;9", 0);
    }

    /** "p HEADS"; "c HEADS of all that are in (its own, too)". */
    private static void headsAndCrowd() {
        garden().price(0, 0, "p*1000+c").with(x -> x.enter(0, 20), x -> x.enter(1, 1))
            .due("30 alone: its own heads", 20020, x -> x.party(0, 6))
            .due("30 with another", 1021, x -> x.party(1, 6))
            .with(x -> x.go(0, 1))
            .due("30 who walks is in", 1021, x -> x.gives(0, 1, 0))
            .with(x -> x.enter(0, 5), x -> x.leave(1), x -> x.enter(2, 1))
            .due("30 who is out or forged is not", 1021, x -> x.party(2, 6));
    }

    /** "m MINUTE", "n NIGHT", "t how many MINUTES since it came (0 when it comes)". */
    private static void minutesAndNights() {
        Story s = garden().price(0, 0, "m").price(0, 0, "n").price(0, 0, "t").price(0, 0, "t*1000+m*10+n");
        s.with(x -> x.minutes(3), x -> x.enter(0, 1)).due("30 when it comes", 30, x -> x.party(0, 6));
        s.due("30 m", 3, x -> x.gives(0, 0, 0)).due("30 n", 0, x -> x.gives(1, 0, 0)).due("30 t", 0, x -> x.gives(2, 0, 0));
        s.with(x -> x.minutes(1)).due("30 t, a minute later", 1, x -> x.gives(2, 0, 0));
        s.withEach(1, 7, i -> x -> x.minutes(60)).with(x -> x.minutes(55));
        s.due("30 m, the last", 479, x -> x.gives(0, 0, 0)).due("30 t, the last", 476, x -> x.gives(2, 0, 0));
        s.withEach(1, 199, i -> x -> x.close()).with(x -> x.enter(0, 1));
        s.due("30 n, the last", 199, x -> x.gives(1, 0, 0)).due("30 m, the first", 0, x -> x.gives(0, 0, 0));
        s.due("30 t, anew", 199, x -> x.party(0, 6));
    }

    /** "r 1 if it RAINS"; "g how many MINUTES of RAIN there were since it came (.., the present one, too)". */
    private static void rainSinceItCame() {
        Story s = garden().price(0, 0, "g*10+r").with(x -> x.rain(1, 3), x -> x.rain(2, 3), x -> x.rain(4, 5));
        s.with(x -> x.enter(0, 1)).due("30 dry", 0, x -> x.party(0, 6));
        s.with(x -> x.minutes(1), x -> x.enter(1, 1)).due("30 the minute in which it comes", 11, x -> x.party(1, 6));
        s.due("30 not the minutes that come", 11, x -> x.gives(0, 0, 0));
        s.with(x -> x.minutes(1)).due("30 two spans, one minute", 21, x -> x.gives(0, 0, 0));
        s.with(x -> x.minutes(1), x -> x.enter(2, 1)).due("30 not the minutes ahead of it", 0, x -> x.party(2, 6));
        s.due("30 the rain is over", 20, x -> x.gives(0, 1, 0));
        s.with(x -> x.minutes(1)).due("30 again", 31, x -> x.gives(0, 0, 0)).due("30 for the third", 11, x -> x.gives(0, 2, 0));
        s.with(x -> x.close(), x -> x.enter(0, 1)).due("30 none of another night", 0, x -> x.gives(0, 0, 0));
        toTheEnd(garden().price(0, 0, "g").with(x -> x.enter(0, 1), x -> x.rain(0, 480)))
            .due("30 all minutes", 480, x -> x.gives(0, 0, 0));
    }

    /** "s SLICES (of an ORDER; else 0)". */
    private static void slicesOfAnOrder() {
        garden().price(0, 0, "s+1").price(1, 0, "s+2").price(2, 0, "s+3").with(x -> x.box(0, 9), x -> x.enter(0, 1))
            .due("30 entry: 0", 1, x -> x.party(0, 6))
            .with(x -> x.let(0, 0), x -> x.ham(990), x -> x.order(0, 99), x -> x.minutes(1))
            .due("30 of the order", 102, x -> x.party(0, 6))
            .due("30 refund: 0", 3, x -> x.leave(0));
    }

    /** "2 REFUND (of a PARTY, when it goes OUT)": its own heads are in then. */
    private static void refundOfWhoGoes() {
        garden().price(2, 0, "c*10+t").with(x -> x.enter(0, 2), x -> x.enter(1, 3), x -> x.minutes(4))
            .due("9 both are in", 54, x -> x.leave(0))
            .due("9 one is in", 34, x -> x.leave(1))
            .due("10 its refund", 54, x -> x.party(0, 7))
            .due("10 nothing was paid", 0, x -> x.party(0, 6));
    }
}
