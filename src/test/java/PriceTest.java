/** Promises 27 to 30: feed, price, inForce, gives. */
public final class PriceTest {
    private static final Check CHECK = new Check();

    private static void due(String call, long got, long want) {
        CHECK.due(call, got, want);
    }

    public static void main(String[] args) {
        feeds();
        faults();
        many();
        inForce();
        values();
        whatWasOnTheTape();
        names();
        refundsByRain();
        CHECK.finish();
    }

    private static void feeds() {
        PleasureGarden x = Check.garden(9, 0);
        due("27 n 0", x.feed(0, 1), -1);
        due("27 n 5", x.feed(5, 1), -1);
        due("27 n -1", x.feed(-1, 1), -1);
        due("27 the lowest first", x.feed(3, '1' | '2' << 8 | '3' << 16 | 'x' << 24), 3);
        due("27 one", x.feed(1, '4' | 'x' << 8), 4);
        due("28 1234", x.price(0, 0), 0);
        x.enter(0, 1);
        due("27 its bytes", x.gives(0, 0, 0), 1234);
        due("27 four with the highest bit", x.feed(4, -1), 4);
        due("28 fault", x.price(0, 0), -100);
        for (int i = 1; i <= 29; i++) {
            x.feed(4, '1' * 0x01010101);
        }
        x.feed(2, '+' | '1' << 8);
        due("27 too many", x.feed(3, 0), -3);
        due("27 FULL changes nothing", x.count(11), 118);
        due("27 BAD ahead of FULL", x.feed(5, 0), -1);
        due("27 to the end", x.feed(2, '+' | '1' << 8), 120);
        due("27 one too many", x.feed(1, '1'), -3);
        due("28 a long number", x.price(0, 0), -105);
        due("27 empty then", x.count(11), 0);
        due("27 one more", x.feed(1, '1'), 1);
        x.close();
        due("27 the tape stays", x.count(11), 1);
    }

    private static void fault(String text, int place) {
        PleasureGarden x = new PleasureGarden();
        due("28 fault of " + text, Check.price(x, 0, 0, text), place < 0 ? 0 : -100 - place);
        due("28 tape behind " + text, x.count(11), 0);
        due("28 prices behind " + text, x.count(8), place < 0 ? 1 : 0);
    }

    private static void faults() {
        fault("", 0);
        fault("1", -1);
        fault("12345", -1);
        fault("123456", 5);
        fault("00000", -1);
        for (char name : "pmrngsct".toCharArray()) {
            fault("" + name, -1);
        }
        for (char other : "abxP .:;<=>+-*/)\0\u007f\u0080\u00ff!&[^_`{~@".toCharArray()) {
            fault("" + other, 0);
            fault("1+" + other, 2);
        }
        fault("1 ", 1);
        fault("1p", 1);
        fault("pp", 1);
        fault("p1", 1);
        fault("(1", 2);
        fault("(1)", -1);
        fault("(1)1", 3);
        fault("(1)(", 3);
        fault("(1))", 3);
        fault("1)", 1);
        fault("()", 1);
        fault("(1:2)", 2);
        fault("(1;2)", 2);
        fault("(1<2)<3", -1);
        fault("(1<2<3)", 4);
        fault("((1<2)<3", 8);
        fault("1<2=3", 3);
        fault("1=(2>3)", -1);
        fault("1+2<3*4", -1);
        fault("1<", 2);
        fault("1<-2", 2);
        fault("-1", 0);
        fault("1--1", 2);
        fault("1*", 2);
        fault("1:", 2);
        fault("1:2", -1);
        fault("1:2:", 3);
        fault("1<2:3<4;5>6:7=8", -1);
        fault("1<2:3<4<", 7);
        fault("1;", 2);
        fault("1;2;3", -1);
        fault("1:2;3:4", -1);
        fault(";1", 0);
        fault("1;:2", 2);
        fault("((((((((1))))))))", -1);
        fault("(((((((((1)))))))))", 8);
        fault("((((((((1))))))))+((((((((1))))))))", -1);
        fault("1:((((((((1))))))))", -1);
        fault("1:(((((((((1)))))))))", 10);
        fault("1+((((((((2+(3)", 12);
        fault("(((((((1)+(((", 12);
        fault("p" + "+p".repeat(59), -1);
        fault("p" + ";p".repeat(59), -1);
        fault("(p" + "+p".repeat(59), 120);
    }

    private static void many() {
        PleasureGarden x = Check.garden(9, 0);
        due("28 kind -1", x.price(-1, 0), -1);
        due("28 kind 3", x.price(3, 0), -1);
        due("28 from -1", x.price(0, -1), -1);
        due("28 from 200", x.price(0, 200), -1);
        x.feed(1, '1');
        due("28 BAD leaves the tape", x.price(0, 200), -1);
        due("28 as it is", x.count(11), 1);
        due("28 from 199", x.price(2, 199), 0);
        for (int i = 1; i < 30; i++) {
            due("28 price " + i, Check.price(x, i % 3, 0, "" + i), i);
        }
        due("28 the 31st", Check.price(x, 0, 0, "1"), -3);
        due("28 FULL leaves the tape", x.count(11), 1);
        due("28 BAD ahead of FULL", x.price(3, 0), -1);
        x.enter(0, 1);
        for (int i = 1; i < 30; i++) {
            due("30 price " + i, x.gives(i, 0, 0), i);
        }
    }

    private static void inForce() {
        PleasureGarden x = Check.garden(9, 0);
        due("29 kind -1", x.inForce(-1, 0, 0), -1);
        due("29 kind 3", x.inForce(3, 0, 0), -1);
        due("29 night -1", x.inForce(0, -1, 0), -1);
        due("29 night 200", x.inForce(0, 200, 0), -1);
        due("29 k -1", x.inForce(0, 0, -1), -1);
        due("29 k 200", x.inForce(0, 0, 200), -1);
        due("29 none", x.inForce(0, 199, 199), -2);
        Check.price(x, 0, 0, "10");
        Check.price(x, 0, 2, "20");
        Check.price(x, 1, 0, "30");
        x.close();
        Check.price(x, 0, 1, "40");
        Check.price(x, 0, 3, "50");
        due("29 on 0 as known on 0", x.inForce(0, 0, 0), 0);
        due("29 on 1 as known on 0", x.inForce(0, 1, 0), 0);
        due("29 on 2 as known on 0", x.inForce(0, 2, 0), 1);
        due("29 on 0 as known on 1", x.inForce(0, 0, 1), 0);
        due("29 on 1 as known on 1", x.inForce(0, 1, 1), 3);
        due("29 made last, though in force earlier", x.inForce(0, 2, 1), 3);
        due("29 on 3 as known on 1", x.inForce(0, 3, 1), 4);
        due("29 as known on a later night", x.inForce(0, 199, 199), 4);
        due("29 another kind", x.inForce(1, 5, 5), 2);
        due("29 none of a kind", x.inForce(2, 5, 5), -2);
        x.enter(0, 1);
        due("29 tonight's price is paid", x.party(0, 6), 40);
        x.close();
        x.close();
        x.enter(0, 1);
        due("29 the later one", x.party(0, 6), 50);
    }

    private static void value(String text, int want) {
        PleasureGarden x = Check.garden(9, 0);
        x.enter(0, 7);
        Check.price(x, 0, 0, text);
        due("30 " + text, x.gives(0, 0, 5), want);
    }

    private static void values() {
        value("2+3*4", 14);
        value("(2+3)*4", 20);
        value("20-3-4", 13);
        value("40/4/5", 2);
        value("40/4*5", 50);
        value("7/2*2", 6);
        value("7/0", 0);
        value("7/0+1", 1);
        value("(0-7)/2+10", 7);
        value("0-1", 0);
        value("99999+1", 100000);
        value("99999+2", 100000);
        value("100*999", 99900);
        value("99999*99999", 100000);
        value("99999*21475", 100000);
        value("99999*21476", 0);
        value("65536*32768*2+9", 9);
        value("(0-65536*32768)/(0-1)", 0);
        value("(0-65536*32768)/(0-1)-1-65536*32767-65535+5", 5);
        value("1<2", 1);
        value("2<2", 0);
        value("2=2", 1);
        value("3=2", 0);
        value("3>2", 1);
        value("2>2", 0);
        value("1+1=2", 1);
        value("(1<2)+(3>2)+(4=4)", 3);
        value("0:5", 0);
        value("1:5", 5);
        value("0-1:5", 5);
        value("0:5;6", 6);
        value("0:5;1:7;8", 7);
        value("4;5", 4);
        value("0;5", 0);
        value("1:0;5", 0);
        value("0:1;0:2", 0);
        value("00012", 12);
        value("s", 5);
        value("p*s", 35);

        PleasureGarden x = Check.garden(9, 0);
        Check.price(x, 1, 5, "s");
        x.enter(0, 7);
        due("30 no price", x.gives(1, 0, 0), PleasureGarden.VOID);
        due("30 price -1", x.gives(-1, 0, 0), PleasureGarden.VOID);
        due("30 no party", x.gives(0, 1, 0), PleasureGarden.VOID);
        due("30 party -1", x.gives(0, -1, 0), PleasureGarden.VOID);
        due("30 slices -1", x.gives(0, 0, -1), PleasureGarden.VOID);
        due("30 slices 100", x.gives(0, 0, 100), PleasureGarden.VOID);
        due("30 slices 0", x.gives(0, 0, 0), 0);
        due("30 slices 99", x.gives(0, 0, 99), 99);
        due("30 nothing is paid", x.count(14), 0);
    }

    private static void whatWasOnTheTape() {
        PleasureGarden x = Check.garden(9, 0);
        x.enter(0, 1);
        due("28 a long fault", Check.price(x, 0, 0, "9+1;7+"), -106);
        due("28 a short one", Check.price(x, 0, 0, "9+"), -102);
        due("28 an empty one", x.price(0, 0), -100);
        due("28 its beginning", Check.price(x, 0, 0, "9"), 0);
        due("30 nothing of the earlier one", x.gives(0, 0, 0), 9);
    }

    private static void names() {
        PleasureGarden x = Check.garden(99, 1, 9, 0);
        x.walk(0, 1, 1);
        x.close();
        x.close();
        String[] texts = {"p", "m", "r", "n", "g", "s", "c", "t"};
        for (String text : texts) {
            Check.price(x, 0, 199, text);
        }
        Check.price(x, 0, 0, "c*100+g*10+t+s*5000");
        x.rain(1, 3);
        x.rain(2, 4);
        x.rain(6, 7);
        x.enter(0, 4);
        due("30 entry: own heads, no rain yet, 0 minutes", x.party(0, 6), 400);
        all(x, 0, 4, 0, 0, 2, 0, 8, 4, 0);
        x.minutes(2);
        x.enter(1, 5);
        due("30 entry in rain", x.party(1, 6), 910);
        x.go(0, 1);
        all(x, 0, 4, 2, 1, 2, 2, 8, 9, 2);
        all(x, 1, 5, 2, 1, 2, 1, 8, 9, 0);
        x.minutes(3);
        all(x, 0, 4, 5, 0, 2, 3, 8, 9, 5);
        all(x, 1, 5, 5, 0, 2, 2, 8, 9, 3);
        x.rain(5, 6);
        all(x, 1, 5, 5, 1, 2, 3, 8, 9, 3);
        x.leave(1);
        all(x, 0, 4, 5, 1, 2, 4, 8, 4, 5);
    }

    private static void all(PleasureGarden x, int party, int... want) {
        for (int price = 0; price < want.length; price++) {
            due("30 name " + price + " of " + party, x.gives(price, party, 8), want[price]);
        }
    }

    private static void refundsByRain() {
        PleasureGarden x = Check.garden(99, 1);
        Check.price(x, 0, 0, "p*100");
        Check.price(x, 2, 0, "g>1:p*50;r:p*20;s");
        x.enter(0, 2);
        x.rain(3, 6);
        due("9 dry", x.leave(0), 0);
        x.enter(0, 2);
        x.minutes(3);
        due("9 it rains", x.leave(1), 40);
        x.enter(0, 3);
        x.minutes(1);
        due("9 two minutes of rain", x.leave(2), 150);
        due("14 takings", x.count(14), 700 - 40 - 150);
    }
}
