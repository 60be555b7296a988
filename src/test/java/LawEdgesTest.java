/** The boundary cases of promises 15 to 18 and of the law's texts, each under the sentence that names it. */
public final class LawEdgesTest {
    private static final String GOES_ON = "FAULT: the first byte of the first word or sign with which no TEXT goes on";
    private static final Due due = new Due();

    public static void main(String[] args) {
        feed();
        bytesOfFeed();
        trim();
        usedUp();
        order();
        levels();
        numbers();
        names();
        wordsBySigns();
        blanks();
        wordBehindWord();
        openBrackets();
        openNots();
        tooSoon();
        lawStays();
        howMany();
        wrap();
        divide();
        truths();
        marked();
        heat();
        due.named(15, 18);
        due.end();
    }

    private static void fault(String text, int place) {
        due.is("fault of <" + text + ">", Due.law(new DinnerBoxes(), text), -100 - place);
    }

    private static void right(String text, int values) {
        due.is("values of <" + text + ">", Due.law(new DinnerBoxes(), text), values);
    }

    /** What a text gives, as ice (where it is 0 .. 9999). */
    private static void gives(String text, int want) {
        DinnerBoxes x = Kitchens.of(0, 1, 1);
        x.menu(1);
        Due.law(x, "mark 0 ice " + text);
        due.is("ice of " + text, x.ice(0), want);
        Due.law(x, "mark (" + text + ")=" + want + " ice 0");
        due.is("mark of " + text, x.about(0, 6), 1);
    }

    /** That a test that may only be put so is true. */
    private static void holds(String text) {
        gives(text, 1);
    }

    private static void feed() {
        due.sentence(15, "FULL: it would have more than 120.");
        DinnerBoxes x = new DinnerBoxes();
        for (int i = 1; i <= 10; i++) due.is("feed " + i, x.feed(0, 0, 0), 12 * i);
        due.is("the 11th", x.feed(0, 0, 0), Due.FULL);
        due.is("bytes", x.count(8), 120);
        x.trim(109);
        due.is("behind 109", x.feed(0, 0, 0), Due.FULL);
        due.is("109 stay", x.count(8), 109);
        x.trim(108);
        due.is("behind 108", x.feed(0, 0, 0), 120);
        DinnerBoxes y = new DinnerBoxes();
        StringBuilder text = new StringBuilder("mark 1 ice 1");
        while (text.length() < 120) text.append(' ');
        Due.write(y, text.toString());
        due.is("full", y.feed(-1, -1, -1), Due.FULL);
        due.is("what is on the tape stays", y.law(), 2);
    }

    private static void bytesOfFeed() {
        due.sentence(15, "Twelve bytes come to THE TAPE, the highest of each number first: how many it has.");
        String text = "mark 1 ice 1";
        for (int i = 0; i < 12; i++) {
            if (text.charAt(i) == ' ') continue;
            int[] v = new int[3];
            for (int k = 0; k < 12; k++) v[k / 4] = v[k / 4] << 8 | (k == i ? 255 : text.charAt(k));
            DinnerBoxes x = new DinnerBoxes();
            due.is("twelve", x.feed(v[0], v[1], v[2]), 12);
            int place = i < 4 ? 0 : i >= 7 && i < 10 ? 7 : i;
            due.is("byte 255 at " + i, x.law(), -100 - place);
        }
        DinnerBoxes x = new DinnerBoxes();
        x.feed(Due.four("mark", 0), Due.four(" 1 i", 0), Due.four("ce 1", 0));
        due.is("in their order", x.law(), 2);
        x.feed(Integer.MIN_VALUE, 0, 0);
        due.is("a byte of 128", x.law(), -100);
        x.feed(-1, -1, -1);
        due.is("bytes of 255", x.law(), -100);
    }

    private static void trim() {
        due.sentence(16, "THE TAPE keeps its first n bytes: n. BAD.");
        DinnerBoxes x = new DinnerBoxes();
        due.is("nothing of nothing", x.trim(0), 0);
        due.is("1 of nothing", x.trim(1), Due.BAD);
        Due.write(x, "mark 1 ice 123456789");
        due.is("20 bytes", x.count(8), 20);
        due.is("21 of 20", x.trim(21), Due.BAD);
        due.is("-1 of 20", x.trim(-1), Due.BAD);
        due.is("20 stay", x.count(8), 20);
        due.is("20 of 20", x.trim(20), 20);
        due.is("16 of 20", x.trim(16), 16);
        due.is("17 of 16", x.trim(17), Due.BAD);
        due.is("16 bytes", x.count(8), 16);
        due.is("its first", x.law(), 2);
        Due.write(x, "mark 1 ice 1");
        due.is("none of 12", x.trim(0), 0);
        due.is("no byte", x.count(8), 0);
        due.is("nothing to read", x.law(), -100);
    }

    private static void usedUp() {
        due.sentence(17, "an act that reads it uses it up, whatever it answers");
        DinnerBoxes x = new DinnerBoxes();
        due.is("right", Due.law(x, "mark 1 ice 1"), 2);
        due.is("no bytes", x.count(8), 0);
        due.is("a fault", Due.law(x, "mark 1 ice ,"), -111);
        due.is("no bytes", x.count(8), 0);
        due.is("the end", Due.law(x, "mark 1 ice  "), -112);
        due.is("no bytes", x.count(8), 0);
        due.is("nothing", x.law(), -100);
        due.is("no bytes", x.count(8), 0);
        due.sentence(17, "(120 bytes at most;");
        StringBuilder text = new StringBuilder("mark 1 ice 1");
        while (text.length() < 120) text.append("+g");
        due.is("120 bytes", Due.law(x, text.toString()), 56);
        while (text.length() > 12) text.setLength(text.length() - 2);
        while (text.length() < 120) text.insert(0, ' ');
        due.is("120 bytes, blanks first", Due.law(x, text.toString()), 2);
        due.is("120 blanks", Due.law(x, " ".repeat(120)), -220);
        due.is("a fault in the last byte", Due.law(x, text.substring(1) + ","), -219);
        due.is("a 1 and a 1", Due.law(x, text.substring(1) + "1"), 2);
    }

    private static void order() {
        due.sentence(17, "mark E ice E.");
        fault("ice 1 mark 1", 0);
        fault("1", 0);
        fault("mark ice 1", 5);
        fault("mark 1 1 ice 1", 7);
        fault("mark 1 mark 1", 7);
        fault("mark 1 ice ice", 11);
        fault("mark 1 ice 1 ice 1", 13);
        fault("mark 1 ice 1 mark 1", 13);
        fault("mark 1 ice 1 1", 13);
        fault("mark mark 1 ice 1", 5);
        fault("mar k 1 ice 1", 0);
        fault("mark 1 i ce 1", 7);
        fault("mark 1 ic 1", 7);
        fault("mark 1 icee 1", 7);
        for (String word : new String[] {"dark", "murk", "mask", "mars", "mar", "marks", "ice", "g"}) fault(word + " 1 ice 1", 0);
        for (String word : new String[] {"ace", "ide", "icy", "ic", "iced", "mark", "g"}) fault("mark 1 " + word + " 1", 7);
        fault("Mark 1 ice 1", 0);
        fault("mark 1 Ice 1", 7);
    }

    private static void levels() {
        due.sentence(17, "E, the loosest first: OR: AND { | AND }; AND: TEST { & TEST };");
        for (String sign : new String[] {"|", "&", "+", "-", "*", "/"}) {
            right("mark 1" + sign + "1 ice 1", 3);
            right("mark 1" + sign + "1" + sign + "1 ice 1" + sign + "1" + sign + "1", 6);
            fault("mark " + sign + "1 ice 1", 5);
            fault("mark 1" + sign + sign + "1 ice 1", 7);
            fault("mark 1" + sign + " ice 1", 8);
            fault("mark 1 ice 1" + sign, 13);
            fault("mark 1 ice (1" + sign + ")", 14);
        }
        right("mark 1 ice " + "1|".repeat(54) + "1", 56);
        gives("1|0&0", 1);
        gives("0&0|1", 1);
        gives("0&(0|1)", 0);
        gives("1&1=2", 0);
        gives("(1&1)=2", 0);
        gives("2=1&1|2", 1);
        due.sentence(17, "TEST: SUM [ (< | = | >) SUM ];");
        for (String one : new String[] {"<", "=", ">"}) {
            right("mark 1" + one + "1 ice 1", 3);
            for (String other : new String[] {"<", "=", ">"}) {
                fault("mark 1" + one + "1" + other + "1 ice 1", 8);
                fault("mark 1 ice (1" + one + "1" + other + "1)", 15);
                fault("mark 1" + one + other + "1 ice 1", 7);
                right("mark (1" + one + "1)" + other + "1 ice 1", 4);
                right("mark 1" + one + "1&1" + other + "1|1" + other + "1 ice 1", 7);
            }
            fault("mark " + one + "1 ice 1", 5);
            fault("mark 1" + one + " ice 1", 8);
            fault("mark !1" + one + "1" + one + "1 ice 1", 9);
        }
        due.sentence(17, "SUM: TERM { (+ | -) TERM }; TERM: PART { (* | /) PART };");
        gives("2+3*4", 14);
        gives("2*3+4", 10);
        gives("9-3-2", 4);
        gives("9-3+2", 8);
        gives("8/2/2", 2);
        gives("8/2*2", 8);
        gives("7*3/2", 10);
        gives("1+1=2", 1);
        gives("3<1+1", 0);
        due.sentence(17, "PART: NUMBER (1 to 5 digits) | NAME | ! PART | ( E ).");
        fault("mark () ice 1", 6);
        fault("mark (1 ice 1", 8);
        fault("mark 1) ice 1", 6);
        fault("mark 1 ice 1)", 12);
        fault("mark (1)) ice 1", 8);
        fault("mark 1(1) ice 1", 6);
        fault("mark 1!1 ice 1", 6);
        fault("mark ! ice 1", 7);
        fault("mark !) ice 1", 6);
        fault("mark !+1 ice 1", 6);
        gives("!0+1", 2);
        gives("!(0+1)", 0);
        gives("!0*9", 9);
        gives("!1=0", 1);
        gives("2*(3+4)", 14);
    }

    private static void numbers() {
        due.sentence(17, "NUMBER (1 to 5 digits)");
        String digits = "1234567890";
        for (int many = 1; many <= 10; many++) {
            String number = digits.substring(0, many);
            if (many == 6) due.sentence(17, "a NUMBER of more than 5 digits");
            if (many <= 5) right("mark " + number + " ice " + number, 2);
            else fault("mark " + number + " ice 1", 5);
            if (many > 5) fault("mark 1 ice 1+" + number, 13);
        }
        due.sentence(17, "NUMBER (1 to 5 digits)");
        right("mark 00000 ice 99999", 2);
        fault("mark 000000 ice 1", 5);
        fault("mark 1 ice 000001", 11);
        right("mark 12345 ice 12345", 2);
        gives("99999/100", 999);
        gives("00012", 12);
        gives("0", 0);
        gives("12345-2345-10000", 0);
        for (int d = 0; d <= 9; d++) gives("" + d, d);
    }

    private static void names() {
        due.sentence(17, "NAMES, each one letter: of mark, for a MEAL: g grams of a PORTION (all PARTS), n how many PARTS, a how many ALLERGENS, k KIND, c COST;");
        for (char c = 'a'; c <= 'z'; c++) {
            if ("gnakc".indexOf(c) >= 0) right("mark " + c + " ice 1", 2);
            else fault("mark " + c + " ice 1", 5);
        }
        fault("mark gg ice 1", 5);
        fault("mark gn ice 1", 5);
        fault("mark G ice 1", 5);
        due.sentence(17, "of ice, for a BOX: g grams of all, times PORTIONS, m MILES, h HEAT of the WEEK (0 .. 60; 20 at first), r whether some MEAL in it is RAW (1, 0).");
        for (char c = 'a'; c <= 'z'; c++) {
            if ("gmhr".indexOf(c) >= 0) right("mark 1 ice " + c, 2);
            else fault("mark 1 ice " + c, 11);
        }
        fault("mark 1 ice gg", 11);
        fault("mark 1 ice R", 11);
    }

    /** Each byte between two numbers, behind the last one, and ahead of the first word. */
    private static void wordsBySigns() {
        due.sentence(17, "A word is a row of letters a .. z, or of digits, as long as it goes; any other byte is a sign by itself.");
        for (int b = 0; b < 256; b++) {
            char c = (char) b;
            boolean joins = "|&<=>+-*/".indexOf(c) >= 0, digit = c >= '0' && c <= '9';
            if (joins) right("mark 1" + c + "1 ice 1", 3);
            else if (digit) right("mark 1" + c + "1 ice 1", 2);
            else fault("mark 1" + c + "1 ice 1", c == ' ' ? 7 : 6);
            if (joins) fault("mark 1 ice 1" + c, 13);
            else if (digit || c == ' ') right("mark 1 ice 1" + c, 2);
            else fault("mark 1 ice 1" + c, 12);
            if (c == ' ') right(c + "mark 1 ice 1", 2);
            else fault(c + "mark 1 ice 1", 0);
            boolean letter = c >= 'a' && c <= 'z';
            if (c == '(' || c == '!') fault("mark" + c, 5);
            else fault("mark" + c, letter ? 0 : c == ' ' ? 5 : 4);
        }
    }

    private static void blanks() {
        due.sentence(17, "Between words and signs, and at the ends, there may be blanks (byte 32)");
        right("   mark   (   1   +   g   )   ice   !   (   1   )   ", 3);
        right("mark(1+g)ice!(1)", 3);
        right("mark 1 ice 1 ", 2);
        right(" mark 1 ice 1", 2);
        fault("mark 1 2 ice 1", 7);
        fault("mark 1   2 ice 1", 9);
        for (int b : new int[] {0, 9, 10, 13, 31, 33, 160, 255}) {
            if (b != 33) fault("mark" + (char) b + "1 ice 1", 4);
            fault("mark 1" + (char) b + "ice 1", 6);
            fault("mark 1 ice 1" + (char) b, 12);
        }
    }

    private static void wordBehindWord() {
        due.sentence(17, "a word right behind another one needs one");
        right("mark 1 ice 1", 2);
        due.sentence(17, "(a word that needs a blank ahead of it,");
        fault("mark1 ice 1", 4);
        fault("mark 1ice 1", 6);
        fault("mark 1 ice1", 10);
        fault("mark g1 ice 1", 6);
        fault("mark 1g ice 1", 6);
        fault("mark 12345g ice 1", 10);
        fault("mark 1 ice 1g", 12);
        fault("mark 1 ice g1", 12);
        fault("mark1", 4);
        due.sentence(17, GOES_ON);
        fault("markg ice 1", 0);
        fault("mark gice 1", 5);
        fault("mark 1 iceg", 7);
        fault("mark 123456g ice 1", 5);
        fault("mark 1,, ice 1", 6);
    }

    private static void openBrackets() {
        due.sentence(17, "the ninth (");
        String eight = "((((((((";
        right("mark " + eight + "1" + "))))))))" + " ice 1", 2);
        fault("mark " + eight + "(1" + ")))))))))" + " ice 1", 13);
        fault("mark " + eight + "(", 13);
        right("mark 1 ice " + eight + "1" + "))))))))", 2);
        fault("mark 1 ice " + eight + " (1" + ")))))))))", 20);
        right("mark " + eight + "1))))))))+" + eight + "1)))))))) ice " + eight + "1))))))))", 3);
        right("mark " + eight + "1)+(1)+(1))))))))" + " ice 1", 4);
        fault("mark " + eight + "1)+((1))+(1))))))))" + " ice 1", 17);
        right("mark !" + eight + "1" + "))))))))" + " ice 1", 2);
        fault("mark (!(!(!(!(!(!(!(1)))))))) ice (((((((((", 42);
    }

    private static void openNots() {
        due.sentence(17, "the ninth ! that would be open within one another");
        right("mark !!!!!!!!1 ice 1", 2);
        fault("mark !!!!!!!!!1 ice 1", 13);
        fault("mark !!!!!!!!!", 13);
        right("mark 1 ice !!!!!!!!1", 2);
        fault("mark 1 ice !!!!!!!! !1", 20);
        right("mark !!!!!!!!1+!!!!!!!!1 ice !!!!!!!!1", 3);
        right("mark !!!!!!!(!1+!1) ice 1", 3);
        fault("mark !!!!!!!(!1+!!1) ice 1", 17);
        right("mark !!!!!!!!(1)&!1 ice 1", 3);
        right("mark (!!!!!!!!1)&!1 ice 1", 3);
        fault("mark !!!!(!!!!(!1)) ice 1", 15);
        right("mark !!!!(!!!!(((((((1)))))))) ice 1", 2);
    }

    private static void tooSoon() {
        due.sentence(17, "the end (the place behind the last byte), if it comes too soon");
        String[] texts = {"", " ", "mark", "mark ", "mark 1", "mark 1 ", "mark g", "mark 1 ice", "mark 1 ice ", "mark 1 ice (", "mark 1 ice !", "mark 1 ice (1",
            "mark 1 ice (1 ", "mark 1 ice 1+", "mark 1 ice 1<", "mark 1 ice 1& ", "mark (", "mark !", "mark 1+", "mark (1)", "mark 1 ice ((1)"};
        for (String text : texts) fault(text, text.length());
        right("mark 1 ice 1", 2);
        fault("m", 0);
        fault("mar", 0);
        fault("mark 1 i", 7);
        fault("mark 1 ic", 7);
    }

    private static void lawStays() {
        due.sentence(17, "-100 less the place of its fault: then THE LAW stays.");
        DinnerBoxes x = Kitchens.of(0, 1, 1);
        x.menu(1);
        due.is("a fault, no law yet", Due.law(x, "mark 1 ice 7,"), -112);
        due.is("none is marked", x.about(0, 6), 0);
        due.is("ice", x.ice(0), 0);
        due.is("the first law", Due.law(x, "mark 1 ice 7"), 2);
        String[] faulty = {"mark 0 ice 8 9", "mark 0 ice", "mark 0", "", "mark 0 ice 8+", "mark 0 ice (8", "mark 0 ice 8)"};
        for (String text : faulty) {
            Due.law(x, text);
            due.is("marked behind <" + text + ">", x.about(0, 6), 1);
            due.is("ice behind <" + text + ">", x.ice(0), 7);
        }
        for (String text : new String[] {"mark 1 ice 1 g", "mark 1 ice 1 1", "mark 1 ice 1g", "g", "1", "mark 1 ice 123456", "mark 1 ice ((((((((("}) {
            due.is("a fault: <" + text + ">", Due.law(x, text) <= -100 ? 1 : 0, 1);
            due.is("a right law behind it", Due.law(x, "mark 1 ice 7"), 2);
        }
        due.is("another law", Due.law(x, "mark 0 ice 8"), 2);
        due.is("none is marked", x.about(0, 6), 0);
        due.is("ice", x.ice(0), 8);
    }

    private static void howMany() {
        due.sentence(17, "THE TAPE is THE LAW: how many NUMBERS and NAMES it has.");
        DinnerBoxes x = Kitchens.of(0, 1, 1);
        x.menu(1);
        for (String longer : new String[] {"!1", "!!1", "1+1", "1*0*0", "(1-1)*(1-1)"}) {
            due.is("a longer law", Due.law(x, "mark " + longer + " ice " + longer) > 1 ? 1 : 0, 1);
            due.is("a shorter one behind it", Due.law(x, "mark 6 ice 6"), 2);
            due.is("has nothing of the longer one in ice", x.ice(0), 6);
            due.is("nor in mark", x.about(0, 6), 1);
        }
        right("mark 1 ice 1", 2);
        right("mark g ice g", 2);
        right("mark ((12345)) ice !!g", 2);
        right("mark g+n+a+k+c ice g+m+h+r", 9);
        right("mark g+g+g+1+1 ice g", 6);
        right("mark(" + "g+".repeat(52) + "g)ice(1)", 54);
    }

    private static void wrap() {
        due.sentence(17, "Ints wrap;");
        holds("32768*65535+32767>0");
        holds("32768*65535+32768<0");
        holds("32768*65536<0");
        holds("32768*65536-1>0");
        holds("0-32768*65536<0");
        holds("65536*65536=0");
        holds("65536*65537=65536");
        gives("99999*99999/10000/100", 1409);
        holds("32768*65536/(0-1)<0");
        holds("32768*65536/(0-1)=32768*65536");
        holds("32768*65536<0-99999");
        holds("32768*65536-1>99999");
    }

    private static void divide() {
        due.sentence(17, "/ cuts towards 0, and is 0 by 0");
        gives("7/2", 3);
        gives("10+(0-7)/2", 7);
        gives("10+7/(0-2)", 7);
        gives("(0-7)/(0-2)", 3);
        gives("1/2", 0);
        gives("10+(0-1)/2", 10);
        gives("5/0", 0);
        gives("0/0", 0);
        gives("0/5", 0);
        gives("(0-5)/0", 0);
        gives("3+5/0", 3);
        gives("5/0*9", 0);
        gives("5/(1-1)", 0);
        gives("32768*65536/0", 0);
    }

    private static void truths() {
        due.sentence(17, "tests, & | ! give 1 or 0 (what is not 0 is true; both sides are worked out)");
        String[] signs = {"<", "=", ">", "&", "|"};
        int[][] pairs = {{0, 0}, {0, 1}, {1, 0}, {5, 7}, {7, 5}, {7, 7}};
        int[][] want = {{0, 1, 0, 0, 0}, {1, 0, 0, 0, 1}, {0, 0, 1, 0, 1}, {1, 0, 0, 1, 1}, {0, 0, 1, 1, 1}, {0, 1, 0, 1, 1}};
        for (int p = 0; p < pairs.length; p++) for (int s = 0; s < 5; s++) gives(pairs[p][0] + signs[s] + pairs[p][1], want[p][s]);
        gives("(0-1)&(0-1)", 1);
        gives("(0-1)|0", 1);
        gives("!(0-1)", 0);
        gives("0-1<0", 1);
        gives("0>0-1", 1);
        gives("!0", 1);
        gives("!1", 0);
        gives("!99999", 0);
        gives("!!99999", 1);
        gives("0&5/0", 0);
        gives("1|5/0", 1);
        gives("2&65536*65536", 0);
    }

    private static void marked() {
        due.sentence(17, "MARKED is a MEAL if E of mark is not 0");
        DinnerBoxes x = new DinnerBoxes();
        for (int p = 0; p < 5; p++) x.part(p == 0 ? 255 : 1, 99900, 1);
        x.meal(3, 15);
        x.meal(0, 0);
        for (int p = 0; p < 5; p++) x.with(0, p, 999);
        String[] texts = {"1", "0-1", "0", "65536*65536", "32768*65536", "99999", "g=4995", "n=5", "a=8", "k=3", "c=49900", "g-4995", "k-3"};
        int[] of0 = {1, 1, 0, 0, 1, 1, 1, 1, 1, 1, 1, 0, 0};
        for (int i = 0; i < texts.length; i++) {
            Due.law(x, "mark " + texts[i] + " ice 1");
            due.is("mark " + texts[i], x.about(0, 6), of0[i]);
        }
        Due.law(x, "mark g+n+a+k+c ice 1");
        due.is("a meal of which all is 0", x.about(1, 6), 0);
    }

    private static void heat() {
        due.sentence(18, "HEAT becomes h: what it was. BAD.");
        DinnerBoxes x = new DinnerBoxes();
        due.is("0", x.heat(0), 20);
        due.is("60", x.heat(60), 0);
        due.is("61", x.heat(61), Due.BAD);
        due.is("-1", x.heat(-1), Due.BAD);
        due.is("as it is", x.heat(60), 60);
        x.end();
        due.is("the next week", x.heat(20), 60);
    }
}
